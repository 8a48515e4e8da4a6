theorem st_prim {s : State} {args : Array Value} {ty : FieldType} (h : (Cond.arrayClass ty).before args s = true) : ∃ cA : ClassId, ArrOfT s cA ty ∧ s.vm.findClass ("[" ++ ty.toString) = some cA := by
  obtain ⟨c, k, comp, h1, h2, h3⟩ := Cond.arrayClass_spec h
  exact ⟨c, fun n z => ⟨fun q hq => (by cases hq), k, h2, comp, h3⟩, h1⟩
theorem st_ref {s : State} {C : String} (h : va_AO C s) : ∃ cA : ClassId, ArrOfT s cA (.object C) ∧ va_RA s cA (.object C) := by
  obtain ⟨comp, c, k, h1, h2, h3, h4, h5⟩ := Cond.arrayOver_spec h
  exact ⟨c, fun n z => ⟨fun q hq => (by cases hq), k, h3, comp, h4⟩, k, comp, h3, h4, h1, h5⟩
set_option maxHeartbeats 4000000 in
set_option maxRecDepth 100000 in
theorem law_start {p : Program} {e : Env} {s : State} {m : MethodId} {below : List Frame} {meth : Method} {c : Code} (l : Launch) {b L : Nat} {xs : Nat → Int32} (hL : L ≤ 2560) (C0 : lw_At p s m meth c b L xs) {Inv : Nat → Mem → Prop} (S : ST_all Inv) : W p l e room_1 s m #[Value.ref b] below meth c s.heap [] 0 0 (lw_Z below #[Value.ref b] s) (entryFrame m ([Value.ref b] : List Value).toArray 4) := by
  have C1 := C0
  obtain ⟨hx, hb, hr, hml, hown, hts0, hX, hbl, hlocks, hgv⟩ := C0
  have hts : ∀ w ∈ wsL_law, w.before #[Value.ref b] s = true := fun w h => hts0 w (lin_all w h)
  obtain ⟨c0, i0, h0⟩ := u_known (C := RX0) (T := TX0) (N := 8) (n := 8) hts inlX0 (hts _ wd_ins_X0)
  obtain ⟨c1, i1, h1⟩ := u_known (C := RX1) (T := TX1) (N := 5) (n := 5) hts inlX1 (hts _ wd_ins_X1)
  obtain ⟨c2, i2, h2⟩ := u_known (C := RX2) (T := TX2) (N := 4) (n := 4) hts inlX2 (hts _ wd_ins_X2)
  obtain ⟨c3, i3, h3⟩ := u_known (C := RX3) (T := TX3) (N := 12) (n := 12) hts inlX3 (hts _ wd_ins_X3)
  obtain ⟨c4, i4, h4⟩ := u_known (C := RX4) (T := TX4) (N := 6) (n := 6) hts inlX4 (hts _ wd_ins_X4)
  obtain ⟨c5, i5, h5⟩ := u_known (C := RX5) (T := TX5) (N := 6) (n := 6) hts inlX5 (hts _ wd_ins_X5)
  obtain ⟨dC, dI, hKc⟩ : ∃ (dC : Nat → ClassId) (dI : Nat → Nat → Nat), ∀ (k : Nat) (q : vw_C), vwCl[k]? = some q → u_Kn s q.1 q.2.1 q.2.2 (dC k) (dI k) := by
    refine ⟨fun k => match k with | 0 => c0 | 1 => c1 | 2 => c2 | 3 => c3 | 4 => c4 | _ => c5, fun k => match k with | 0 => i0 | 1 => i1 | 2 => i2 | 3 => i3 | 4 => i4 | _ => i5, ?_⟩
    intro k q hq
    match k, hq with
    | 0, hq => cases hq; exact h0
    | 1, hq => cases hq; exact h1
    | 2, hq => cases hq; exact h2
    | 3, hq => cases hq; exact h3
    | 4, hq => cases hq; exact h4
    | 5, hq => cases hq; exact h5
    | k + 6, hq => simp [vwCl] at hq
  have ha2 : va_AO "SafeParts$Waiting" s := va_AO.of (hts0 _ lin_ao2)
  have ha3 : va_AO "SafeParts$World" s := va_AO.of (hts0 _ lin_ao3)
  obtain ⟨y0, t0, f0⟩ := st_prim (hts _ wd_ac_int)
  obtain ⟨y1, t1, f1⟩ := st_prim (hts _ wd_ac_boolean)
  obtain ⟨y2, t2, f2⟩ := st_ref ha2
  obtain ⟨y3, t3, f3⟩ := st_ref ha3
  obtain ⟨cy, hKt⟩ : ∃ cy : Nat → ClassId, ∀ (k : Nat) (q : ClassId × FieldType), (tysU cy)[k]? = some q → ArrOfT s q.1 q.2 ∧ va_RA s q.1 q.2 := by
    refine ⟨fun k => match k with | 0 => y0 | 1 => y1 | 2 => y2 | _ => y3, ?_⟩
    intro k q hq
    match k, hq with
    | 0, hq => cases hq; exact ⟨t0, f0⟩
    | 1, hq => cases hq; exact ⟨t1, f1⟩
    | 2, hq => cases hq; exact ⟨t2, f2⟩
    | 3, hq => cases hq; exact ⟨t3, f3⟩
    | k + 4, hq => simp [tysU] at hq
  have hK : va_K (dC, dI) vwCl (tysU cy) s := ⟨hKc, hKt⟩
  have hZ : KZ dC dI cy s := ⟨hK, ha2, ha3, va_Nw.of rfl (hts0 _ lin_nX3_11), va_Nw.of rfl (hts0 _ lin_nX3_38), va_Nw.of rfl (hts0 _ lin_nX4_29)⟩
  have Z : XI dC dI cy p s m c #[Value.ref b] meth cL_law 4 RL := ⟨⟨hx, hb, hml, hown, hts⟩, hZ⟩
  have hG : GI dC dI s.heap.size (([] : va_W) ++ []) s.heap s.heap [] := ⟨fun k q h => by simp at h, ⟨fun i j p q h => by simp at h, fun k q h => by simp at h⟩, va_S.rf, Nat.le_refl _⟩
  have hl := lv_entry ([.ref b]) (n := 4) (Nat.le_of_ble_eq_true rfl)
  rw [lg_entry_eq]
  generalize (lg_sl ([.ref b]) ++ List.replicate (4 - (lg_sl ([.ref b])).length) Slot.unset).toArray = ls at hl ⊢
  have hl : lv_has ls 4 [(0, .ref b)] := hl
  refine ci_new (X := []) (Y := []) (ci := 4) (fs := [.null, .null, .null, .null, .null, .null]) Z hG tyX4_ok inlX4 wd_ck_L_7 wd_ins_X4 wd_ini_X4 rfl (fun j hj => by rcases (show j = 0 ∨ j = 1 ∨ j = 2 ∨ j = 3 ∨ j = 4 ∨ j = 5 by omega) with rfl | rfl | rfl | rfl | rfl | rfl <;> rfl) (Nat.le_of_ble_eq_true rfl) (Nat.le_of_ble_eq_true rfl) dL_law_0 (fun q0 H hG => ?_)
  refine W.widen (k := 1) (n := 6) (Nat.le_of_ble_eq_true rfl) (Nat.le_of_ble_eq_true rfl) ?_
  refine lv_dup hx hb dL_law_3 rfl ?_
  refine va_callv (va_runI (As := []) (rest := [.ref q0]) (g := F0 m 4 ls [.ref q0, .ref q0]) Z.1 (c_X4_init l dC dI cy s.heap.size [] q0) (cwI 0 hts (gU wd_co_X4_init) rfl rfl rfl (hts _ wd_ini_X4) (hts _ wd_ml_L_9) (hts _ wd_im_X4_init) rfl (by decide +kernel) ⟨Nat.le_of_ble_eq_true rfl, Nat.le_of_ble_eq_true rfl⟩) ⟨PI_blind, fun U hU hW9 => ⟨rfl, by rw [hU]; exact Nat.le_trans hG.2.2.2 hG.2.2.1.1, by rw [hU]; exact hG.1, hG.2.1, hZ.warm hW9⟩⟩ rfl rfl hl.1 rfl (lv_room (Nat.le_of_ble_eq_true rfl)) dL_law_4 ⟨Nat.le_of_ble_eq_true rfl, Nat.le_of_ble_eq_true rfl⟩) hG.2.2.1 (fun q _ h => h) (fun q h => h) (fun u t H1 locs1 ht hvm hw hB hz1 hk1 hS => ?_)
  obtain ⟨q1, q2, q3, w1, w2, w3, w4, lg⟩ := u
  have hG1 : GI dC dI s.heap.size (ysp cy q0 q1 q2 q3 w1 w2 w3 w4 lg ++ []) s.heap H1 locs1 := by
    rw [List.append_nil]
    exact ⟨by rw [← ht]; exact hB.1, hB.2, hS, Nat.le_refl _⟩
  refine W.widen (k := 157) (n := 3589) (Nat.le_of_ble_eq_true rfl) (Nat.le_of_ble_eq_true rfl) ?_
  refine lv_astore_n (lv' := [(1, .ref q0), (0, .ref b)]) hx hb dL_law_7 rfl hl (by decide) rfl (fun ls hl => ?_)
  refine ci_new (X := ysp cy q0 q1 q2 q3 w1 w2 w3 w4 lg) (Y := []) (ci := 5) (fs := [.null, .null, .int 0, .null, .long 0, .null]) Z hG1 tyX5_ok inlX5 wd_ck_L_10 wd_ins_X5 wd_ini_X5 rfl (fun j hj => by rcases (show j = 0 ∨ j = 1 ∨ j = 2 ∨ j = 3 ∨ j = 4 ∨ j = 5 by omega) with rfl | rfl | rfl | rfl | rfl | rfl <;> rfl) (Nat.le_of_ble_eq_true rfl) (Nat.le_of_ble_eq_true rfl) dL_law_8 (fun m0 H2 hG2 => ?_)
  refine W.widen (k := 158) (n := 3595) (Nat.le_of_ble_eq_true rfl) (Nat.le_of_ble_eq_true rfl) ?_
  refine lv_dup hx hb dL_law_11 rfl ?_
  refine ci_callI (rest := [.ref m0]) (X := ysp cy q0 q1 q2 q3 w1 w2 w3 w4 lg) (Y := []) (wf := ymd cy) Z hG2 (by rw [List.append_nil]; exact c_X5_init l dC dI cy s.heap.size (ysp cy q0 q1 q2 q3 w1 w2 w3 w4 lg) m0) (cwI 0 hts (gU wd_co_X5_init) rfl rfl rfl (hts _ wd_ini_X5) (hts _ wd_ml_L_12) (hts _ wd_im_X5_init) rfl (by decide +kernel) ⟨Nat.le_of_ble_eq_true rfl, Nat.le_of_ble_eq_true rfl⟩) hl.1 (Nat.le_of_ble_eq_true rfl) dL_law_12 ⟨Nat.le_of_ble_eq_true rfl, Nat.le_of_ble_eq_true rfl⟩ (fun md H3 locs3 hmd hG3 => ?_)
  subst hmd
  rw [List.nil_append] at hG3
  refine W.widen (k := 162) (n := 5451) (Nat.le_of_ble_eq_true rfl) (Nat.le_of_ble_eq_true rfl) ?_
  refine lv_astore_n (lv' := [(2, .ref (md 0)), (1, .ref q0), (0, .ref b)]) hx hb dL_law_15 rfl hl (by decide) rfl (fun ls hl => ?_)
  refine lv_iconst (v := 0) hx hb dL_law_16 (by decide) ?_
  refine lv_istore_n (lv' := [(3, .int 0), (2, .ref (md 0)), (1, .ref q0), (0, .ref b)]) hx hb dL_law_17 rfl hl (by decide) rfl (fun ls hl => ?_)
  obtain ⟨hinj, haB⟩ := pic_D cy q0 q1 q2 q3 w1 w2 w3 w4 lg md hG3.2.1
  exact law_loop hL C1 hK hinj haB S (L + 1) 0 M0 H3 locs3 ls (by omega) (by omega) S.1 (pic_P cy q0 q1 q2 q3 w1 w2 w3 w4 lg md hG3.1) hG3.2.2.1 (lv_sub hl [3, 2, 1, 0] rfl)
