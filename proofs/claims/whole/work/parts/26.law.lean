/-- one call on both, at the same numbers: the answers are one, and the numbers behind it keep Inv -/
def ST_parts (Inv : Nat → Mem → Prop) : Prop := ∀ (k : Nat) (M : Mem) (x1 : Int32), k < 512 → Inv k M → ∃ (r : Int32) (M1 : Mem) (M2 : Mem), f_X4_parts M 0 x1 = some (r, M1) ∧ f_X5_parts M1 157 x1 = some (r, M2) ∧ Inv (k + 1) M2
def ST_channel (Inv : Nat → Mem → Prop) : Prop := ∀ (k : Nat) (M : Mem) (x1 x2 x3 x4 : Int32), k < 512 → Inv k M → ∃ (r : Int32) (M1 : Mem) (M2 : Mem), f_X4_channel M 0 x1 x2 x3 x4 = some (r, M1) ∧ f_X5_channel M1 157 x1 x2 x3 x4 = some (r, M2) ∧ Inv (k + 1) M2
def ST_event (Inv : Nat → Mem → Prop) : Prop := ∀ (k : Nat) (M : Mem) (x1 x2 x3 : Int32), k < 512 → Inv k M → ∃ (r : Int32) (M1 : Mem) (M2 : Mem), f_X4_event M 0 x1 x2 x3 = some (r, M1) ∧ f_X5_event M1 157 x1 x2 x3 = some (r, M2) ∧ Inv (k + 1) M2
def ST_form (Inv : Nat → Mem → Prop) : Prop := ∀ (k : Nat) (M : Mem) (x1 : Int32), k < 512 → Inv k M → ∃ (r : Int32) (M1 : Mem) (M2 : Mem), f_X4_form M 0 x1 = some (r, M1) ∧ f_X5_form M1 157 x1 = some (r, M2) ∧ Inv (k + 1) M2
def ST_drift (Inv : Nat → Mem → Prop) : Prop := ∀ (k : Nat) (M : Mem) (x1 x2 : Int32), k < 512 → Inv k M → ∃ (r : Int32) (M1 : Mem) (M2 : Mem), f_X4_drift M 0 x1 x2 = some (r, M1) ∧ f_X5_drift M1 157 x1 x2 = some (r, M2) ∧ Inv (k + 1) M2
def ST_run (Inv : Nat → Mem → Prop) : Prop := ∀ (k : Nat) (M : Mem) (x1 : Int32), k < 512 → Inv k M → ∃ (r : Int32) (M1 : Mem) (M2 : Mem), f_X4_run M 0 x1 = some (r, M1) ∧ f_X5_run M1 157 x1 = some (r, M2) ∧ Inv (k + 1) M2
def ST_letGo (Inv : Nat → Mem → Prop) : Prop := ∀ (k : Nat) (M : Mem), k < 512 → Inv k M → ∃ (r : Int32) (M1 : Mem) (M2 : Mem), f_X4_letGo M 0 = some (r, M1) ∧ f_X5_letGo M1 157 = some (r, M2) ∧ Inv (k + 1) M2
def ST_finish (Inv : Nat → Mem → Prop) : Prop := ∀ (k : Nat) (M : Mem), k < 512 → Inv k M → ∃ (r : Int32) (M1 : Mem) (M2 : Mem), f_X4_finish M 0 = some (r, M1) ∧ f_X5_finish M1 157 = some (r, M2) ∧ Inv (k + 1) M2
def ST_told (Inv : Nat → Mem → Prop) : Prop := ∀ (k : Nat) (M : Mem) (x1 : Int32), k < 512 → Inv k M → ∃ (r : Int32) (M2 : Mem), f_X4_told M 0 x1 = some r ∧ f_X5_told M 157 x1 = some (r, M2) ∧ Inv (k + 1) M2
def ST_part (Inv : Nat → Mem → Prop) : Prop := ∀ (k : Nat) (M : Mem) (x1 x2 : Int32), k < 512 → Inv k M → ∃ (r : Int32), f_X4_part M 0 x1 x2 = some r ∧ f_X5_part M 157 x1 x2 = some r ∧ Inv (k + 1) M
def ST_channelOf (Inv : Nat → Mem → Prop) : Prop := ∀ (k : Nat) (M : Mem) (x1 x2 : Int32), k < 512 → Inv k M → ∃ (r : Int32), f_X4_channelOf M 0 x1 x2 = some r ∧ f_X5_channelOf M 157 x1 x2 = some r ∧ Inv (k + 1) M
def ST_between (Inv : Nat → Mem → Prop) : Prop := ∀ (k : Nat) (M : Mem) (x1 x2 : Int32), k < 512 → Inv k M → ∃ (r : Int32), f_X4_between M 0 x1 x2 = some r ∧ f_X5_between M 157 x1 x2 = some r ∧ Inv (k + 1) M
def ST_record (Inv : Nat → Mem → Prop) : Prop := ∀ (k : Nat) (M : Mem) (x1 x2 : Int32), k < 512 → Inv k M → ∃ (r : Int32), f_X4_record M 0 x1 x2 = some r ∧ f_X5_record M 157 x1 x2 = some r ∧ Inv (k + 1) M
def ST_ring (Inv : Nat → Mem → Prop) : Prop := ∀ (k : Nat) (M : Mem) (x1 : Int32), k < 512 → Inv k M → ∃ (r : Int32) (M1 : Mem) (M2 : Mem), f_X4_ring M 0 x1 = some (r, M1) ∧ f_X5_ring M1 157 x1 = some (r, M2) ∧ Inv (k + 1) M2
def ST_waits (Inv : Nat → Mem → Prop) : Prop := ∀ (k : Nat) (M : Mem) (x1 : Int32), k < 512 → Inv k M → ∃ (r : Int32), f_X4_waits M 0 x1 = some r ∧ f_X5_waits M 157 x1 = some r ∧ Inv (k + 1) M
def ST_inOrder (Inv : Nat → Mem → Prop) : Prop := ∀ (k : Nat) (M : Mem) (x1 x2 : Int32), k < 512 → Inv k M → ∃ (r : Int32) (M1 : Mem) (M2 : Mem), f_X4_inOrder M 0 x1 x2 = some (r, M1) ∧ f_X5_inOrder M1 157 x1 x2 = some (r, M2) ∧ Inv (k + 1) M2
def ST_keep (Inv : Nat → Mem → Prop) : Prop := ∀ (k : Nat) (M : Mem) (x1 : Int32), k < 512 → Inv k M → ∃ (r : Int32) (M1 : Mem) (M2 : Mem), f_X4_keep M 0 x1 = some (r, M1) ∧ f_X5_keep M1 157 x1 = some (r, M2) ∧ Inv (k + 1) M2
def ST_goBack (Inv : Nat → Mem → Prop) : Prop := ∀ (k : Nat) (M : Mem) (x1 : Int32), k < 512 → Inv k M → ∃ (r : Int32) (M1 : Mem) (M2 : Mem), f_X4_goBack M 0 x1 = some (r, M1) ∧ f_X5_goBack M1 157 x1 = some (r, M2) ∧ Inv (k + 1) M2
def ST_all (Inv : Nat → Mem → Prop) : Prop := Inv 0 M0 ∧ (∀ k M, Inv k M → Inv (k + 1) M) ∧ ST_parts Inv ∧ ST_channel Inv ∧ ST_event Inv ∧ ST_form Inv ∧ ST_drift Inv ∧ ST_run Inv ∧ ST_letGo Inv ∧ ST_finish Inv ∧ ST_told Inv ∧ ST_part Inv ∧ ST_channelOf Inv ∧ ST_between Inv ∧ ST_record Inv ∧ ST_ring Inv ∧ ST_waits Inv ∧ ST_inOrder Inv ∧ ST_keep Inv ∧ ST_goBack Inv
theorem lw_callVi {p : Program} {l : Launch} {e : Env} {R : Room} {s : State} {m : MethodId} {args : Array Value} {below : List Frame} {meth : Method} {c : Code} {H : Heap} {locs : List Loc} {cells slots : Nat} {Q : State → Prop} {dC : Nat → ClassId} {dI : Nat → Nat → Nat} {cy : Nat → ClassId} {a : Nat → Nat} {cc : ByteArray} {nL : Nat} {own : String} {M : Mem} {pc : Nat} {ls : Array Slot} {rest : List Value} (F : CallFix p m c cc nL s args wsL_law own) (hK : va_K (dC, dI) vwCl (tysU cy) s) (haB : ∀ i, i < 162 → s.heap.size ≤ a i) (hP : va_P (dC, dI) vwCl (wsM a cy M) H) (hS : va_S (fun q => s.heap.size ≤ q) s.heap H locs) {y : MethodName} {bytes : ByteArray} {maxL n index i ci N : Nat} {ret1 : Option FieldType} {fl : List (Nat ⊕ Bool)} {C : String} {T : u_T} {rm : Room} {As st0 : List Value} {r : Int32} {M1 : Mem} (hs : shp i = objS ci fl) (hc : vwCl[ci]? = some (C, T, N)) (hM : Met l y (wsU y bytes maxL ret1) rm (PU dC dI cy a (.ref (a i) :: As) M) (QUi dC dI cy a r M1) 0 0 (AU a)) (cw : CallW R s args own C index y bytes maxL ret1 (wsU y bytes maxL ret1) rm 0 0 n) (hn : As.length = n) (hsz : ls.size = nL) (hst : st0 = As.reverse ++ .ref (a i) :: rest) (hW : (rest.map fun v => v.category).sum ≤ 8) (hdg : decode cc pc = .ok (.invokevirtual index, 3)) (hf : cells ≤ R.cells ∧ slots ≤ R.slots)
    (kk : ∀ (H1 : Heap) (locs1 : List Loc), va_P (dC, dI) vwCl (wsM a cy M1) H1 → va_S (fun q => s.heap.size ≤ q) s.heap H1 locs1 → W p l e R s m args below meth c H1 locs1 cells slots Q (F0 m (pc + 3) ls (.int r :: rest))) : W p l e R s m args below meth c H locs cells slots Q (F0 m pc ls st0) := by
  have hAU : ∀ q, AU a q → s.heap.size ≤ q := fun q ⟨i, hi, e⟩ => by rw [e]; exact haB i hi
  refine va_calli (va_runV (As := As) (rest := rest) (g := F0 m pc ls st0) F hM cw ⟨PU_blind, va_recv hK hP hc (at_obj hs), fun U hU hW => ⟨rfl, by rw [hU]; exact hP, va_K.moved hW.alike hK⟩⟩ rfl hn hsz hst (lv_room hW) hdg hf) hS (fun q _ h => hAU q h) hAU (fun r1 u t H1 locs1 ht hvm hw hB hz1 hk1 hS => ?_)
  obtain ⟨rfl, rfl⟩ := hw
  exact kk H1 locs1 (by rw [← ht]; exact hB) hS
theorem law_ix {k j L : Nat} (h : 5 * k + j < L) (hL : L ≤ 2560) : vp_in (nI (5 * k) + nI j) L ∧ (nI (5 * k) + nI j).toNatClampNeg = 5 * k + j := by
  rw [nI_add]
  exact ⟨vp_in_nI h (by omega), nI_clamp (by omega)⟩
set_option maxHeartbeats 4000000 in
set_option maxRecDepth 100000 in
theorem law_parts {p : Program} {l : Launch} {e : Env} {s : State} {m : MethodId} {below : List Frame} {meth : Method} {c : Code} {dC : Nat → ClassId} {dI : Nat → Nat → Nat} {cy : Nat → ClassId} {a : Nat → Nat} {b L : Nat} {xs : Nat → Int32} (hL : L ≤ 2560) (C0 : lw_At p s m meth c b L xs) (hK : va_K (dC, dI) vwCl (tysU cy) s) (ha : injU a) (haB : ∀ i, i < 162 → s.heap.size ≤ a i) {Inv : Nat → Mem → Prop} (S : ST_all Inv) {k : Nat} (hk : k < 512) (hkL : 5 * k + 5 ≤ L) {M : Mem} {H : Heap} {locs : List Loc} {ls : Array Slot} (hI : Inv k M) (hP : va_P (dC, dI) vwCl (wsM a cy M) H) (hS : va_S (fun q => s.heap.size ≤ q) s.heap H locs) (hl : lv_has ls 4 [(0, .ref b), (1, .ref (a 0)), (2, .ref (a 157)), (3, .int (nI (5 * k)))]) (ih : ∀ (M : Mem) (H : Heap) (locs : List Loc) (ls : Array Slot), Inv (k + 1) M → va_P (dC, dI) vwCl (wsM a cy M) H → va_S (fun q => s.heap.size ≤ q) s.heap H locs → lv_has ls 4 [(0, .ref b), (1, .ref (a 0)), (2, .ref (a 157)), (3, .int (nI (5 * k)))] → W p l e room_1 s m #[Value.ref b] below meth c H locs 162 5451 (lw_Z below #[Value.ref b] s) (F0 m 624 ls [])) : W p l e room_1 s m #[Value.ref b] below meth c H locs 162 5451 (lw_Z below #[Value.ref b] s) (F0 m 120 ls []) := by
  obtain ⟨hx, hb, hr, hml, hown, hts0, hX, hbl, hlocks, hgv⟩ := C0
  have hts : ∀ w ∈ wsL_law, w.before #[Value.ref b] s = true := fun w h => hts0 w (lin_all w h)
  have hbA : ¬ (fun q : Nat => s.heap.size ≤ q) b := Nat.not_le.mpr hbl
  have F : CallFix p m c cL_law 4 s #[Value.ref b] wsL_law RL := ⟨hx, hb, hml, hown, hts⟩
  obtain ⟨r, M1, M2, h1, h2, hI⟩ := S.2.2.1 k M (xs (5 * k + 1)) hk hI
  refine lv_aload_n hx hb dL_law_120 rfl (lv_at hl 1 rfl) ?_
  refine lv_aload_n hx hb dL_law_121 rfl (lv_at hl 0 rfl) ?_
  refine lv_iload_n hx hb dL_law_122 rfl (lv_at hl 3 rfl) ?_
  refine lv_iconst (v := 1) hx hb dL_law_123 (by decide) ?_
  refine lv_iadd hx hb dL_law_124 ?_
  refine va_sld hx hb hX hbl hbA hS (law_ix (j := 1) (by omega) hL).1 dL_law_125 ?_
  rw [show (nI (5 * k) + (1 : Int32)).toNatClampNeg = 5 * k + 1 from (law_ix (j := 1) (by omega) hL).2]
  refine lw_callVi (rest := []) F hK haB hP hS K4_0.1 rfl (c_X4_parts l dC dI cy a ha 0 K4_0 M (xs (5 * k + 1)) h1) (cwV 1 hts (gV wd_ml_L_13 wd_im_X4_parts wd_se_X4_X4_parts wd_ini_X4 wd_co_X4_parts) rfl rfl rfl hd_X4_parts ⟨(Nat.le_of_ble_eq_true rfl), (Nat.le_of_ble_eq_true rfl)⟩) rfl hl.1 rfl (Nat.le_of_ble_eq_true rfl) dL_law_126 ⟨(Nat.le_of_ble_eq_true rfl), (Nat.le_of_ble_eq_true rfl)⟩ (fun H locs hP hS => ?_)
  refine lv_aload_n hx hb dL_law_129 rfl (lv_at hl 2 rfl) ?_
  refine lv_aload_n hx hb dL_law_130 rfl (lv_at hl 0 rfl) ?_
  refine lv_iload_n hx hb dL_law_131 rfl (lv_at hl 3 rfl) ?_
  refine lv_iconst (v := 1) hx hb dL_law_132 (by decide) ?_
  refine lv_iadd hx hb dL_law_133 ?_
  refine va_sld hx hb hX hbl hbA hS (law_ix (j := 1) (by omega) hL).1 dL_law_134 ?_
  rw [show (nI (5 * k) + (1 : Int32)).toNatClampNeg = 5 * k + 1 from (law_ix (j := 1) (by omega) hL).2]
  refine lw_callVi (rest := [.int r]) F hK haB hP hS K5_157.1 rfl (c_X5_parts l dC dI cy a ha 157 K5_157 M1 (xs (5 * k + 1)) h2) (cwV 1 hts (gV wd_ml_L_17 wd_im_X5_parts wd_se_X5_X5_parts wd_ini_X5 wd_co_X5_parts) rfl rfl rfl hd_X5_parts ⟨(Nat.le_of_ble_eq_true rfl), (Nat.le_of_ble_eq_true rfl)⟩) rfl hl.1 rfl (Nat.le_of_ble_eq_true rfl) dL_law_135 ⟨(Nat.le_of_ble_eq_true rfl), (Nat.le_of_ble_eq_true rfl)⟩ (fun H locs hP hS => ?_)
  refine lv_icmp_eq (tgt := 624) hx hb dL_law_138 (by decide) (fun _ => ?_) (fun h => absurd rfl h)
  exact ih _ _ _ _ hI hP hS hl
set_option maxHeartbeats 4000000 in
set_option maxRecDepth 100000 in
theorem law_channel {p : Program} {l : Launch} {e : Env} {s : State} {m : MethodId} {below : List Frame} {meth : Method} {c : Code} {dC : Nat → ClassId} {dI : Nat → Nat → Nat} {cy : Nat → ClassId} {a : Nat → Nat} {b L : Nat} {xs : Nat → Int32} (hL : L ≤ 2560) (C0 : lw_At p s m meth c b L xs) (hK : va_K (dC, dI) vwCl (tysU cy) s) (ha : injU a) (haB : ∀ i, i < 162 → s.heap.size ≤ a i) {Inv : Nat → Mem → Prop} (S : ST_all Inv) {k : Nat} (hk : k < 512) (hkL : 5 * k + 5 ≤ L) {M : Mem} {H : Heap} {locs : List Loc} {ls : Array Slot} (hI : Inv k M) (hP : va_P (dC, dI) vwCl (wsM a cy M) H) (hS : va_S (fun q => s.heap.size ≤ q) s.heap H locs) (hl : lv_has ls 4 [(0, .ref b), (1, .ref (a 0)), (2, .ref (a 157)), (3, .int (nI (5 * k)))]) (ih : ∀ (M : Mem) (H : Heap) (locs : List Loc) (ls : Array Slot), Inv (k + 1) M → va_P (dC, dI) vwCl (wsM a cy M) H → va_S (fun q => s.heap.size ≤ q) s.heap H locs → lv_has ls 4 [(0, .ref b), (1, .ref (a 0)), (2, .ref (a 157)), (3, .int (nI (5 * k)))] → W p l e room_1 s m #[Value.ref b] below meth c H locs 162 5451 (lw_Z below #[Value.ref b] s) (F0 m 624 ls [])) : W p l e room_1 s m #[Value.ref b] below meth c H locs 162 5451 (lw_Z below #[Value.ref b] s) (F0 m 143 ls []) := by
  obtain ⟨hx, hb, hr, hml, hown, hts0, hX, hbl, hlocks, hgv⟩ := C0
  have hts : ∀ w ∈ wsL_law, w.before #[Value.ref b] s = true := fun w h => hts0 w (lin_all w h)
  have hbA : ¬ (fun q : Nat => s.heap.size ≤ q) b := Nat.not_le.mpr hbl
  have F : CallFix p m c cL_law 4 s #[Value.ref b] wsL_law RL := ⟨hx, hb, hml, hown, hts⟩
  obtain ⟨r, M1, M2, h1, h2, hI⟩ := S.2.2.2.1 k M (xs (5 * k + 1)) (xs (5 * k + 2)) (xs (5 * k + 3)) (xs (5 * k + 4)) hk hI
  refine lv_aload_n hx hb dL_law_143 rfl (lv_at hl 1 rfl) ?_
  refine lv_aload_n hx hb dL_law_144 rfl (lv_at hl 0 rfl) ?_
  refine lv_iload_n hx hb dL_law_145 rfl (lv_at hl 3 rfl) ?_
  refine lv_iconst (v := 1) hx hb dL_law_146 (by decide) ?_
  refine lv_iadd hx hb dL_law_147 ?_
  refine va_sld hx hb hX hbl hbA hS (law_ix (j := 1) (by omega) hL).1 dL_law_148 ?_
  rw [show (nI (5 * k) + (1 : Int32)).toNatClampNeg = 5 * k + 1 from (law_ix (j := 1) (by omega) hL).2]
  refine lv_aload_n hx hb dL_law_149 rfl (lv_at hl 0 rfl) ?_
  refine lv_iload_n hx hb dL_law_150 rfl (lv_at hl 3 rfl) ?_
  refine lv_iconst (v := 2) hx hb dL_law_151 (by decide) ?_
  refine lv_iadd hx hb dL_law_152 ?_
  refine va_sld hx hb hX hbl hbA hS (law_ix (j := 2) (by omega) hL).1 dL_law_153 ?_
  rw [show (nI (5 * k) + (2 : Int32)).toNatClampNeg = 5 * k + 2 from (law_ix (j := 2) (by omega) hL).2]
  refine lv_aload_n hx hb dL_law_154 rfl (lv_at hl 0 rfl) ?_
  refine lv_iload_n hx hb dL_law_155 rfl (lv_at hl 3 rfl) ?_
  refine lv_iconst (v := 3) hx hb dL_law_156 (by decide) ?_
  refine lv_iadd hx hb dL_law_157 ?_
  refine va_sld hx hb hX hbl hbA hS (law_ix (j := 3) (by omega) hL).1 dL_law_158 ?_
  rw [show (nI (5 * k) + (3 : Int32)).toNatClampNeg = 5 * k + 3 from (law_ix (j := 3) (by omega) hL).2]
  refine lv_aload_n hx hb dL_law_159 rfl (lv_at hl 0 rfl) ?_
  refine lv_iload_n hx hb dL_law_160 rfl (lv_at hl 3 rfl) ?_
  refine lv_iconst (v := 4) hx hb dL_law_161 (by decide) ?_
  refine lv_iadd hx hb dL_law_162 ?_
  refine va_sld hx hb hX hbl hbA hS (law_ix (j := 4) (by omega) hL).1 dL_law_163 ?_
  rw [show (nI (5 * k) + (4 : Int32)).toNatClampNeg = 5 * k + 4 from (law_ix (j := 4) (by omega) hL).2]
  refine lw_callVi (rest := []) F hK haB hP hS K4_0.1 rfl (c_X4_channel l dC dI cy a ha 0 K4_0 M (xs (5 * k + 1)) (xs (5 * k + 2)) (xs (5 * k + 3)) (xs (5 * k + 4)) h1) (cwV 4 hts (gV wd_ml_L_18 wd_im_X4_channel wd_se_X4_X4_channel wd_ini_X4 wd_co_X4_channel) rfl rfl rfl hd_X4_channel ⟨(Nat.le_of_ble_eq_true rfl), (Nat.le_of_ble_eq_true rfl)⟩) rfl hl.1 rfl (Nat.le_of_ble_eq_true rfl) dL_law_164 ⟨(Nat.le_of_ble_eq_true rfl), (Nat.le_of_ble_eq_true rfl)⟩ (fun H locs hP hS => ?_)
  refine lv_aload_n hx hb dL_law_167 rfl (lv_at hl 2 rfl) ?_
  refine lv_aload_n hx hb dL_law_168 rfl (lv_at hl 0 rfl) ?_
  refine lv_iload_n hx hb dL_law_169 rfl (lv_at hl 3 rfl) ?_
  refine lv_iconst (v := 1) hx hb dL_law_170 (by decide) ?_
  refine lv_iadd hx hb dL_law_171 ?_
  refine va_sld hx hb hX hbl hbA hS (law_ix (j := 1) (by omega) hL).1 dL_law_172 ?_
  rw [show (nI (5 * k) + (1 : Int32)).toNatClampNeg = 5 * k + 1 from (law_ix (j := 1) (by omega) hL).2]
  refine lv_aload_n hx hb dL_law_173 rfl (lv_at hl 0 rfl) ?_
  refine lv_iload_n hx hb dL_law_174 rfl (lv_at hl 3 rfl) ?_
  refine lv_iconst (v := 2) hx hb dL_law_175 (by decide) ?_
  refine lv_iadd hx hb dL_law_176 ?_
  refine va_sld hx hb hX hbl hbA hS (law_ix (j := 2) (by omega) hL).1 dL_law_177 ?_
  rw [show (nI (5 * k) + (2 : Int32)).toNatClampNeg = 5 * k + 2 from (law_ix (j := 2) (by omega) hL).2]
  refine lv_aload_n hx hb dL_law_178 rfl (lv_at hl 0 rfl) ?_
  refine lv_iload_n hx hb dL_law_179 rfl (lv_at hl 3 rfl) ?_
  refine lv_iconst (v := 3) hx hb dL_law_180 (by decide) ?_
  refine lv_iadd hx hb dL_law_181 ?_
  refine va_sld hx hb hX hbl hbA hS (law_ix (j := 3) (by omega) hL).1 dL_law_182 ?_
  rw [show (nI (5 * k) + (3 : Int32)).toNatClampNeg = 5 * k + 3 from (law_ix (j := 3) (by omega) hL).2]
  refine lv_aload_n hx hb dL_law_183 rfl (lv_at hl 0 rfl) ?_
  refine lv_iload_n hx hb dL_law_184 rfl (lv_at hl 3 rfl) ?_
  refine lv_iconst (v := 4) hx hb dL_law_185 (by decide) ?_
  refine lv_iadd hx hb dL_law_186 ?_
  refine va_sld hx hb hX hbl hbA hS (law_ix (j := 4) (by omega) hL).1 dL_law_187 ?_
  rw [show (nI (5 * k) + (4 : Int32)).toNatClampNeg = 5 * k + 4 from (law_ix (j := 4) (by omega) hL).2]
  refine lw_callVi (rest := [.int r]) F hK haB hP hS K5_157.1 rfl (c_X5_channel l dC dI cy a ha 157 K5_157 M1 (xs (5 * k + 1)) (xs (5 * k + 2)) (xs (5 * k + 3)) (xs (5 * k + 4)) h2) (cwV 4 hts (gV wd_ml_L_22 wd_im_X5_channel wd_se_X5_X5_channel wd_ini_X5 wd_co_X5_channel) rfl rfl rfl hd_X5_channel ⟨(Nat.le_of_ble_eq_true rfl), (Nat.le_of_ble_eq_true rfl)⟩) rfl hl.1 rfl (Nat.le_of_ble_eq_true rfl) dL_law_188 ⟨(Nat.le_of_ble_eq_true rfl), (Nat.le_of_ble_eq_true rfl)⟩ (fun H locs hP hS => ?_)
  refine lv_icmp_eq (tgt := 624) hx hb dL_law_191 (by decide) (fun _ => ?_) (fun h => absurd rfl h)
  exact ih _ _ _ _ hI hP hS hl
set_option maxHeartbeats 4000000 in
set_option maxRecDepth 100000 in
theorem law_event {p : Program} {l : Launch} {e : Env} {s : State} {m : MethodId} {below : List Frame} {meth : Method} {c : Code} {dC : Nat → ClassId} {dI : Nat → Nat → Nat} {cy : Nat → ClassId} {a : Nat → Nat} {b L : Nat} {xs : Nat → Int32} (hL : L ≤ 2560) (C0 : lw_At p s m meth c b L xs) (hK : va_K (dC, dI) vwCl (tysU cy) s) (ha : injU a) (haB : ∀ i, i < 162 → s.heap.size ≤ a i) {Inv : Nat → Mem → Prop} (S : ST_all Inv) {k : Nat} (hk : k < 512) (hkL : 5 * k + 5 ≤ L) {M : Mem} {H : Heap} {locs : List Loc} {ls : Array Slot} (hI : Inv k M) (hP : va_P (dC, dI) vwCl (wsM a cy M) H) (hS : va_S (fun q => s.heap.size ≤ q) s.heap H locs) (hl : lv_has ls 4 [(0, .ref b), (1, .ref (a 0)), (2, .ref (a 157)), (3, .int (nI (5 * k)))]) (ih : ∀ (M : Mem) (H : Heap) (locs : List Loc) (ls : Array Slot), Inv (k + 1) M → va_P (dC, dI) vwCl (wsM a cy M) H → va_S (fun q => s.heap.size ≤ q) s.heap H locs → lv_has ls 4 [(0, .ref b), (1, .ref (a 0)), (2, .ref (a 157)), (3, .int (nI (5 * k)))] → W p l e room_1 s m #[Value.ref b] below meth c H locs 162 5451 (lw_Z below #[Value.ref b] s) (F0 m 624 ls [])) : W p l e room_1 s m #[Value.ref b] below meth c H locs 162 5451 (lw_Z below #[Value.ref b] s) (F0 m 196 ls []) := by
  obtain ⟨hx, hb, hr, hml, hown, hts0, hX, hbl, hlocks, hgv⟩ := C0
  have hts : ∀ w ∈ wsL_law, w.before #[Value.ref b] s = true := fun w h => hts0 w (lin_all w h)
  have hbA : ¬ (fun q : Nat => s.heap.size ≤ q) b := Nat.not_le.mpr hbl
  have F : CallFix p m c cL_law 4 s #[Value.ref b] wsL_law RL := ⟨hx, hb, hml, hown, hts⟩
  obtain ⟨r, M1, M2, h1, h2, hI⟩ := S.2.2.2.2.1 k M (xs (5 * k + 1)) (xs (5 * k + 2)) (xs (5 * k + 3)) hk hI
  refine lv_aload_n hx hb dL_law_196 rfl (lv_at hl 1 rfl) ?_
  refine lv_aload_n hx hb dL_law_197 rfl (lv_at hl 0 rfl) ?_
  refine lv_iload_n hx hb dL_law_198 rfl (lv_at hl 3 rfl) ?_
  refine lv_iconst (v := 1) hx hb dL_law_199 (by decide) ?_
  refine lv_iadd hx hb dL_law_200 ?_
  refine va_sld hx hb hX hbl hbA hS (law_ix (j := 1) (by omega) hL).1 dL_law_201 ?_
  rw [show (nI (5 * k) + (1 : Int32)).toNatClampNeg = 5 * k + 1 from (law_ix (j := 1) (by omega) hL).2]
  refine lv_aload_n hx hb dL_law_202 rfl (lv_at hl 0 rfl) ?_
  refine lv_iload_n hx hb dL_law_203 rfl (lv_at hl 3 rfl) ?_
  refine lv_iconst (v := 2) hx hb dL_law_204 (by decide) ?_
  refine lv_iadd hx hb dL_law_205 ?_
  refine va_sld hx hb hX hbl hbA hS (law_ix (j := 2) (by omega) hL).1 dL_law_206 ?_
  rw [show (nI (5 * k) + (2 : Int32)).toNatClampNeg = 5 * k + 2 from (law_ix (j := 2) (by omega) hL).2]
  refine lv_aload_n hx hb dL_law_207 rfl (lv_at hl 0 rfl) ?_
  refine lv_iload_n hx hb dL_law_208 rfl (lv_at hl 3 rfl) ?_
  refine lv_iconst (v := 3) hx hb dL_law_209 (by decide) ?_
  refine lv_iadd hx hb dL_law_210 ?_
  refine va_sld hx hb hX hbl hbA hS (law_ix (j := 3) (by omega) hL).1 dL_law_211 ?_
  rw [show (nI (5 * k) + (3 : Int32)).toNatClampNeg = 5 * k + 3 from (law_ix (j := 3) (by omega) hL).2]
  refine lw_callVi (rest := []) F hK haB hP hS K4_0.1 rfl (c_X4_event l dC dI cy a ha 0 K4_0 M (xs (5 * k + 1)) (xs (5 * k + 2)) (xs (5 * k + 3)) h1) (cwV 3 hts (gV wd_ml_L_23 wd_im_X4_event wd_se_X4_X4_event wd_ini_X4 wd_co_X4_event) rfl rfl rfl hd_X4_event ⟨(Nat.le_of_ble_eq_true rfl), (Nat.le_of_ble_eq_true rfl)⟩) rfl hl.1 rfl (Nat.le_of_ble_eq_true rfl) dL_law_212 ⟨(Nat.le_of_ble_eq_true rfl), (Nat.le_of_ble_eq_true rfl)⟩ (fun H locs hP hS => ?_)
  refine lv_aload_n hx hb dL_law_215 rfl (lv_at hl 2 rfl) ?_
  refine lv_aload_n hx hb dL_law_216 rfl (lv_at hl 0 rfl) ?_
  refine lv_iload_n hx hb dL_law_217 rfl (lv_at hl 3 rfl) ?_
  refine lv_iconst (v := 1) hx hb dL_law_218 (by decide) ?_
  refine lv_iadd hx hb dL_law_219 ?_
  refine va_sld hx hb hX hbl hbA hS (law_ix (j := 1) (by omega) hL).1 dL_law_220 ?_
  rw [show (nI (5 * k) + (1 : Int32)).toNatClampNeg = 5 * k + 1 from (law_ix (j := 1) (by omega) hL).2]
  refine lv_aload_n hx hb dL_law_221 rfl (lv_at hl 0 rfl) ?_
  refine lv_iload_n hx hb dL_law_222 rfl (lv_at hl 3 rfl) ?_
  refine lv_iconst (v := 2) hx hb dL_law_223 (by decide) ?_
  refine lv_iadd hx hb dL_law_224 ?_
  refine va_sld hx hb hX hbl hbA hS (law_ix (j := 2) (by omega) hL).1 dL_law_225 ?_
  rw [show (nI (5 * k) + (2 : Int32)).toNatClampNeg = 5 * k + 2 from (law_ix (j := 2) (by omega) hL).2]
  refine lv_aload_n hx hb dL_law_226 rfl (lv_at hl 0 rfl) ?_
  refine lv_iload_n hx hb dL_law_227 rfl (lv_at hl 3 rfl) ?_
  refine lv_iconst (v := 3) hx hb dL_law_228 (by decide) ?_
  refine lv_iadd hx hb dL_law_229 ?_
  refine va_sld hx hb hX hbl hbA hS (law_ix (j := 3) (by omega) hL).1 dL_law_230 ?_
  rw [show (nI (5 * k) + (3 : Int32)).toNatClampNeg = 5 * k + 3 from (law_ix (j := 3) (by omega) hL).2]
  refine lw_callVi (rest := [.int r]) F hK haB hP hS K5_157.1 rfl (c_X5_event l dC dI cy a ha 157 K5_157 M1 (xs (5 * k + 1)) (xs (5 * k + 2)) (xs (5 * k + 3)) h2) (cwV 3 hts (gV wd_ml_L_27 wd_im_X5_event wd_se_X5_X5_event wd_ini_X5 wd_co_X5_event) rfl rfl rfl hd_X5_event ⟨(Nat.le_of_ble_eq_true rfl), (Nat.le_of_ble_eq_true rfl)⟩) rfl hl.1 rfl (Nat.le_of_ble_eq_true rfl) dL_law_231 ⟨(Nat.le_of_ble_eq_true rfl), (Nat.le_of_ble_eq_true rfl)⟩ (fun H locs hP hS => ?_)
  refine lv_icmp_eq (tgt := 624) hx hb dL_law_234 (by decide) (fun _ => ?_) (fun h => absurd rfl h)
  exact ih _ _ _ _ hI hP hS hl
set_option maxHeartbeats 4000000 in
set_option maxRecDepth 100000 in
theorem law_form {p : Program} {l : Launch} {e : Env} {s : State} {m : MethodId} {below : List Frame} {meth : Method} {c : Code} {dC : Nat → ClassId} {dI : Nat → Nat → Nat} {cy : Nat → ClassId} {a : Nat → Nat} {b L : Nat} {xs : Nat → Int32} (hL : L ≤ 2560) (C0 : lw_At p s m meth c b L xs) (hK : va_K (dC, dI) vwCl (tysU cy) s) (ha : injU a) (haB : ∀ i, i < 162 → s.heap.size ≤ a i) {Inv : Nat → Mem → Prop} (S : ST_all Inv) {k : Nat} (hk : k < 512) (hkL : 5 * k + 5 ≤ L) {M : Mem} {H : Heap} {locs : List Loc} {ls : Array Slot} (hI : Inv k M) (hP : va_P (dC, dI) vwCl (wsM a cy M) H) (hS : va_S (fun q => s.heap.size ≤ q) s.heap H locs) (hl : lv_has ls 4 [(0, .ref b), (1, .ref (a 0)), (2, .ref (a 157)), (3, .int (nI (5 * k)))]) (ih : ∀ (M : Mem) (H : Heap) (locs : List Loc) (ls : Array Slot), Inv (k + 1) M → va_P (dC, dI) vwCl (wsM a cy M) H → va_S (fun q => s.heap.size ≤ q) s.heap H locs → lv_has ls 4 [(0, .ref b), (1, .ref (a 0)), (2, .ref (a 157)), (3, .int (nI (5 * k)))] → W p l e room_1 s m #[Value.ref b] below meth c H locs 162 5451 (lw_Z below #[Value.ref b] s) (F0 m 624 ls [])) : W p l e room_1 s m #[Value.ref b] below meth c H locs 162 5451 (lw_Z below #[Value.ref b] s) (F0 m 239 ls []) := by
  obtain ⟨hx, hb, hr, hml, hown, hts0, hX, hbl, hlocks, hgv⟩ := C0
  have hts : ∀ w ∈ wsL_law, w.before #[Value.ref b] s = true := fun w h => hts0 w (lin_all w h)
  have hbA : ¬ (fun q : Nat => s.heap.size ≤ q) b := Nat.not_le.mpr hbl
  have F : CallFix p m c cL_law 4 s #[Value.ref b] wsL_law RL := ⟨hx, hb, hml, hown, hts⟩
  obtain ⟨r, M1, M2, h1, h2, hI⟩ := S.2.2.2.2.2.1 k M (xs (5 * k + 1)) hk hI
  refine lv_aload_n hx hb dL_law_239 rfl (lv_at hl 1 rfl) ?_
  refine lv_aload_n hx hb dL_law_240 rfl (lv_at hl 0 rfl) ?_
  refine lv_iload_n hx hb dL_law_241 rfl (lv_at hl 3 rfl) ?_
  refine lv_iconst (v := 1) hx hb dL_law_242 (by decide) ?_
  refine lv_iadd hx hb dL_law_243 ?_
  refine va_sld hx hb hX hbl hbA hS (law_ix (j := 1) (by omega) hL).1 dL_law_244 ?_
  rw [show (nI (5 * k) + (1 : Int32)).toNatClampNeg = 5 * k + 1 from (law_ix (j := 1) (by omega) hL).2]
  refine lw_callVi (rest := []) F hK haB hP hS K4_0.1 rfl (c_X4_form l dC dI cy a ha 0 K4_0 M (xs (5 * k + 1)) h1) (cwV 1 hts (gV wd_ml_L_28 wd_im_X4_form wd_se_X4_X4_form wd_ini_X4 wd_co_X4_form) rfl rfl rfl hd_X4_form ⟨(Nat.le_of_ble_eq_true rfl), (Nat.le_of_ble_eq_true rfl)⟩) rfl hl.1 rfl (Nat.le_of_ble_eq_true rfl) dL_law_245 ⟨(Nat.le_of_ble_eq_true rfl), (Nat.le_of_ble_eq_true rfl)⟩ (fun H locs hP hS => ?_)
  refine lv_aload_n hx hb dL_law_248 rfl (lv_at hl 2 rfl) ?_
  refine lv_aload_n hx hb dL_law_249 rfl (lv_at hl 0 rfl) ?_
  refine lv_iload_n hx hb dL_law_250 rfl (lv_at hl 3 rfl) ?_
  refine lv_iconst (v := 1) hx hb dL_law_251 (by decide) ?_
  refine lv_iadd hx hb dL_law_252 ?_
  refine va_sld hx hb hX hbl hbA hS (law_ix (j := 1) (by omega) hL).1 dL_law_253 ?_
  rw [show (nI (5 * k) + (1 : Int32)).toNatClampNeg = 5 * k + 1 from (law_ix (j := 1) (by omega) hL).2]
  refine lw_callVi (rest := [.int r]) F hK haB hP hS K5_157.1 rfl (c_X5_form l dC dI cy a ha 157 K5_157 M1 (xs (5 * k + 1)) h2) (cwV 1 hts (gV wd_ml_L_31 wd_im_X5_form wd_se_X5_X5_form wd_ini_X5 wd_co_X5_form) rfl rfl rfl hd_X5_form ⟨(Nat.le_of_ble_eq_true rfl), (Nat.le_of_ble_eq_true rfl)⟩) rfl hl.1 rfl (Nat.le_of_ble_eq_true rfl) dL_law_254 ⟨(Nat.le_of_ble_eq_true rfl), (Nat.le_of_ble_eq_true rfl)⟩ (fun H locs hP hS => ?_)
  refine lv_icmp_eq (tgt := 624) hx hb dL_law_257 (by decide) (fun _ => ?_) (fun h => absurd rfl h)
  exact ih _ _ _ _ hI hP hS hl
set_option maxHeartbeats 4000000 in
set_option maxRecDepth 100000 in
theorem law_drift {p : Program} {l : Launch} {e : Env} {s : State} {m : MethodId} {below : List Frame} {meth : Method} {c : Code} {dC : Nat → ClassId} {dI : Nat → Nat → Nat} {cy : Nat → ClassId} {a : Nat → Nat} {b L : Nat} {xs : Nat → Int32} (hL : L ≤ 2560) (C0 : lw_At p s m meth c b L xs) (hK : va_K (dC, dI) vwCl (tysU cy) s) (ha : injU a) (haB : ∀ i, i < 162 → s.heap.size ≤ a i) {Inv : Nat → Mem → Prop} (S : ST_all Inv) {k : Nat} (hk : k < 512) (hkL : 5 * k + 5 ≤ L) {M : Mem} {H : Heap} {locs : List Loc} {ls : Array Slot} (hI : Inv k M) (hP : va_P (dC, dI) vwCl (wsM a cy M) H) (hS : va_S (fun q => s.heap.size ≤ q) s.heap H locs) (hl : lv_has ls 4 [(0, .ref b), (1, .ref (a 0)), (2, .ref (a 157)), (3, .int (nI (5 * k)))]) (ih : ∀ (M : Mem) (H : Heap) (locs : List Loc) (ls : Array Slot), Inv (k + 1) M → va_P (dC, dI) vwCl (wsM a cy M) H → va_S (fun q => s.heap.size ≤ q) s.heap H locs → lv_has ls 4 [(0, .ref b), (1, .ref (a 0)), (2, .ref (a 157)), (3, .int (nI (5 * k)))] → W p l e room_1 s m #[Value.ref b] below meth c H locs 162 5451 (lw_Z below #[Value.ref b] s) (F0 m 624 ls [])) : W p l e room_1 s m #[Value.ref b] below meth c H locs 162 5451 (lw_Z below #[Value.ref b] s) (F0 m 262 ls []) := by
  obtain ⟨hx, hb, hr, hml, hown, hts0, hX, hbl, hlocks, hgv⟩ := C0
  have hts : ∀ w ∈ wsL_law, w.before #[Value.ref b] s = true := fun w h => hts0 w (lin_all w h)
  have hbA : ¬ (fun q : Nat => s.heap.size ≤ q) b := Nat.not_le.mpr hbl
  have F : CallFix p m c cL_law 4 s #[Value.ref b] wsL_law RL := ⟨hx, hb, hml, hown, hts⟩
  obtain ⟨r, M1, M2, h1, h2, hI⟩ := S.2.2.2.2.2.2.1 k M (xs (5 * k + 1)) (xs (5 * k + 2)) hk hI
  refine lv_aload_n hx hb dL_law_262 rfl (lv_at hl 1 rfl) ?_
  refine lv_aload_n hx hb dL_law_263 rfl (lv_at hl 0 rfl) ?_
  refine lv_iload_n hx hb dL_law_264 rfl (lv_at hl 3 rfl) ?_
  refine lv_iconst (v := 1) hx hb dL_law_265 (by decide) ?_
  refine lv_iadd hx hb dL_law_266 ?_
  refine va_sld hx hb hX hbl hbA hS (law_ix (j := 1) (by omega) hL).1 dL_law_267 ?_
  rw [show (nI (5 * k) + (1 : Int32)).toNatClampNeg = 5 * k + 1 from (law_ix (j := 1) (by omega) hL).2]
  refine lv_aload_n hx hb dL_law_268 rfl (lv_at hl 0 rfl) ?_
  refine lv_iload_n hx hb dL_law_269 rfl (lv_at hl 3 rfl) ?_
  refine lv_iconst (v := 2) hx hb dL_law_270 (by decide) ?_
  refine lv_iadd hx hb dL_law_271 ?_
  refine va_sld hx hb hX hbl hbA hS (law_ix (j := 2) (by omega) hL).1 dL_law_272 ?_
  rw [show (nI (5 * k) + (2 : Int32)).toNatClampNeg = 5 * k + 2 from (law_ix (j := 2) (by omega) hL).2]
  refine lw_callVi (rest := []) F hK haB hP hS K4_0.1 rfl (c_X4_drift l dC dI cy a ha 0 K4_0 M (xs (5 * k + 1)) (xs (5 * k + 2)) h1) (cwV 2 hts (gV wd_ml_L_32 wd_im_X4_drift wd_se_X4_X4_drift wd_ini_X4 wd_co_X4_drift) rfl rfl rfl hd_X4_drift ⟨(Nat.le_of_ble_eq_true rfl), (Nat.le_of_ble_eq_true rfl)⟩) rfl hl.1 rfl (Nat.le_of_ble_eq_true rfl) dL_law_273 ⟨(Nat.le_of_ble_eq_true rfl), (Nat.le_of_ble_eq_true rfl)⟩ (fun H locs hP hS => ?_)
  refine lv_aload_n hx hb dL_law_276 rfl (lv_at hl 2 rfl) ?_
  refine lv_aload_n hx hb dL_law_277 rfl (lv_at hl 0 rfl) ?_
  refine lv_iload_n hx hb dL_law_278 rfl (lv_at hl 3 rfl) ?_
  refine lv_iconst (v := 1) hx hb dL_law_279 (by decide) ?_
  refine lv_iadd hx hb dL_law_280 ?_
  refine va_sld hx hb hX hbl hbA hS (law_ix (j := 1) (by omega) hL).1 dL_law_281 ?_
  rw [show (nI (5 * k) + (1 : Int32)).toNatClampNeg = 5 * k + 1 from (law_ix (j := 1) (by omega) hL).2]
  refine lv_aload_n hx hb dL_law_282 rfl (lv_at hl 0 rfl) ?_
  refine lv_iload_n hx hb dL_law_283 rfl (lv_at hl 3 rfl) ?_
  refine lv_iconst (v := 2) hx hb dL_law_284 (by decide) ?_
  refine lv_iadd hx hb dL_law_285 ?_
  refine va_sld hx hb hX hbl hbA hS (law_ix (j := 2) (by omega) hL).1 dL_law_286 ?_
  rw [show (nI (5 * k) + (2 : Int32)).toNatClampNeg = 5 * k + 2 from (law_ix (j := 2) (by omega) hL).2]
  refine lw_callVi (rest := [.int r]) F hK haB hP hS K5_157.1 rfl (c_X5_drift l dC dI cy a ha 157 K5_157 M1 (xs (5 * k + 1)) (xs (5 * k + 2)) h2) (cwV 2 hts (gV wd_ml_L_36 wd_im_X5_drift wd_se_X5_X5_drift wd_ini_X5 wd_co_X5_drift) rfl rfl rfl hd_X5_drift ⟨(Nat.le_of_ble_eq_true rfl), (Nat.le_of_ble_eq_true rfl)⟩) rfl hl.1 rfl (Nat.le_of_ble_eq_true rfl) dL_law_287 ⟨(Nat.le_of_ble_eq_true rfl), (Nat.le_of_ble_eq_true rfl)⟩ (fun H locs hP hS => ?_)
  refine lv_icmp_eq (tgt := 624) hx hb dL_law_290 (by decide) (fun _ => ?_) (fun h => absurd rfl h)
  exact ih _ _ _ _ hI hP hS hl
set_option maxHeartbeats 4000000 in
set_option maxRecDepth 100000 in
theorem law_run {p : Program} {l : Launch} {e : Env} {s : State} {m : MethodId} {below : List Frame} {meth : Method} {c : Code} {dC : Nat → ClassId} {dI : Nat → Nat → Nat} {cy : Nat → ClassId} {a : Nat → Nat} {b L : Nat} {xs : Nat → Int32} (hL : L ≤ 2560) (C0 : lw_At p s m meth c b L xs) (hK : va_K (dC, dI) vwCl (tysU cy) s) (ha : injU a) (haB : ∀ i, i < 162 → s.heap.size ≤ a i) {Inv : Nat → Mem → Prop} (S : ST_all Inv) {k : Nat} (hk : k < 512) (hkL : 5 * k + 5 ≤ L) {M : Mem} {H : Heap} {locs : List Loc} {ls : Array Slot} (hI : Inv k M) (hP : va_P (dC, dI) vwCl (wsM a cy M) H) (hS : va_S (fun q => s.heap.size ≤ q) s.heap H locs) (hl : lv_has ls 4 [(0, .ref b), (1, .ref (a 0)), (2, .ref (a 157)), (3, .int (nI (5 * k)))]) (ih : ∀ (M : Mem) (H : Heap) (locs : List Loc) (ls : Array Slot), Inv (k + 1) M → va_P (dC, dI) vwCl (wsM a cy M) H → va_S (fun q => s.heap.size ≤ q) s.heap H locs → lv_has ls 4 [(0, .ref b), (1, .ref (a 0)), (2, .ref (a 157)), (3, .int (nI (5 * k)))] → W p l e room_1 s m #[Value.ref b] below meth c H locs 162 5451 (lw_Z below #[Value.ref b] s) (F0 m 624 ls [])) : W p l e room_1 s m #[Value.ref b] below meth c H locs 162 5451 (lw_Z below #[Value.ref b] s) (F0 m 295 ls []) := by
  obtain ⟨hx, hb, hr, hml, hown, hts0, hX, hbl, hlocks, hgv⟩ := C0
  have hts : ∀ w ∈ wsL_law, w.before #[Value.ref b] s = true := fun w h => hts0 w (lin_all w h)
  have hbA : ¬ (fun q : Nat => s.heap.size ≤ q) b := Nat.not_le.mpr hbl
  have F : CallFix p m c cL_law 4 s #[Value.ref b] wsL_law RL := ⟨hx, hb, hml, hown, hts⟩
  obtain ⟨r, M1, M2, h1, h2, hI⟩ := S.2.2.2.2.2.2.2.1 k M (xs (5 * k + 1)) hk hI
  refine lv_aload_n hx hb dL_law_295 rfl (lv_at hl 1 rfl) ?_
  refine lv_aload_n hx hb dL_law_296 rfl (lv_at hl 0 rfl) ?_
  refine lv_iload_n hx hb dL_law_297 rfl (lv_at hl 3 rfl) ?_
  refine lv_iconst (v := 1) hx hb dL_law_298 (by decide) ?_
  refine lv_iadd hx hb dL_law_299 ?_
  refine va_sld hx hb hX hbl hbA hS (law_ix (j := 1) (by omega) hL).1 dL_law_300 ?_
  rw [show (nI (5 * k) + (1 : Int32)).toNatClampNeg = 5 * k + 1 from (law_ix (j := 1) (by omega) hL).2]
  refine lw_callVi (rest := []) F hK haB hP hS K4_0.1 rfl (c_X4_run l dC dI cy a ha 0 K4_0 M (xs (5 * k + 1)) h1) (cwV 1 hts (gV wd_ml_L_37 wd_im_X4_run wd_se_X4_X4_run wd_ini_X4 wd_co_X4_run) rfl rfl rfl hd_X4_run ⟨(Nat.le_of_ble_eq_true rfl), (Nat.le_of_ble_eq_true rfl)⟩) rfl hl.1 rfl (Nat.le_of_ble_eq_true rfl) dL_law_301 ⟨(Nat.le_of_ble_eq_true rfl), (Nat.le_of_ble_eq_true rfl)⟩ (fun H locs hP hS => ?_)
  refine lv_aload_n hx hb dL_law_304 rfl (lv_at hl 2 rfl) ?_
  refine lv_aload_n hx hb dL_law_305 rfl (lv_at hl 0 rfl) ?_
  refine lv_iload_n hx hb dL_law_306 rfl (lv_at hl 3 rfl) ?_
  refine lv_iconst (v := 1) hx hb dL_law_307 (by decide) ?_
  refine lv_iadd hx hb dL_law_308 ?_
  refine va_sld hx hb hX hbl hbA hS (law_ix (j := 1) (by omega) hL).1 dL_law_309 ?_
  rw [show (nI (5 * k) + (1 : Int32)).toNatClampNeg = 5 * k + 1 from (law_ix (j := 1) (by omega) hL).2]
  refine lw_callVi (rest := [.int r]) F hK haB hP hS K5_157.1 rfl (c_X5_run l dC dI cy a ha 157 K5_157 M1 (xs (5 * k + 1)) h2) (cwV 1 hts (gV wd_ml_L_40 wd_im_X5_run wd_se_X5_X5_run wd_ini_X5 wd_co_X5_run) rfl rfl rfl hd_X5_run ⟨(Nat.le_of_ble_eq_true rfl), (Nat.le_of_ble_eq_true rfl)⟩) rfl hl.1 rfl (Nat.le_of_ble_eq_true rfl) dL_law_310 ⟨(Nat.le_of_ble_eq_true rfl), (Nat.le_of_ble_eq_true rfl)⟩ (fun H locs hP hS => ?_)
  refine lv_icmp_eq (tgt := 624) hx hb dL_law_313 (by decide) (fun _ => ?_) (fun h => absurd rfl h)
  exact ih _ _ _ _ hI hP hS hl
set_option maxHeartbeats 4000000 in
set_option maxRecDepth 100000 in
theorem law_letGo {p : Program} {l : Launch} {e : Env} {s : State} {m : MethodId} {below : List Frame} {meth : Method} {c : Code} {dC : Nat → ClassId} {dI : Nat → Nat → Nat} {cy : Nat → ClassId} {a : Nat → Nat} {b L : Nat} {xs : Nat → Int32} (hL : L ≤ 2560) (C0 : lw_At p s m meth c b L xs) (hK : va_K (dC, dI) vwCl (tysU cy) s) (ha : injU a) (haB : ∀ i, i < 162 → s.heap.size ≤ a i) {Inv : Nat → Mem → Prop} (S : ST_all Inv) {k : Nat} (hk : k < 512) (hkL : 5 * k + 5 ≤ L) {M : Mem} {H : Heap} {locs : List Loc} {ls : Array Slot} (hI : Inv k M) (hP : va_P (dC, dI) vwCl (wsM a cy M) H) (hS : va_S (fun q => s.heap.size ≤ q) s.heap H locs) (hl : lv_has ls 4 [(0, .ref b), (1, .ref (a 0)), (2, .ref (a 157)), (3, .int (nI (5 * k)))]) (ih : ∀ (M : Mem) (H : Heap) (locs : List Loc) (ls : Array Slot), Inv (k + 1) M → va_P (dC, dI) vwCl (wsM a cy M) H → va_S (fun q => s.heap.size ≤ q) s.heap H locs → lv_has ls 4 [(0, .ref b), (1, .ref (a 0)), (2, .ref (a 157)), (3, .int (nI (5 * k)))] → W p l e room_1 s m #[Value.ref b] below meth c H locs 162 5451 (lw_Z below #[Value.ref b] s) (F0 m 624 ls [])) : W p l e room_1 s m #[Value.ref b] below meth c H locs 162 5451 (lw_Z below #[Value.ref b] s) (F0 m 318 ls []) := by
  obtain ⟨hx, hb, hr, hml, hown, hts0, hX, hbl, hlocks, hgv⟩ := C0
  have hts : ∀ w ∈ wsL_law, w.before #[Value.ref b] s = true := fun w h => hts0 w (lin_all w h)
  have hbA : ¬ (fun q : Nat => s.heap.size ≤ q) b := Nat.not_le.mpr hbl
  have F : CallFix p m c cL_law 4 s #[Value.ref b] wsL_law RL := ⟨hx, hb, hml, hown, hts⟩
  obtain ⟨r, M1, M2, h1, h2, hI⟩ := S.2.2.2.2.2.2.2.2.1 k M  hk hI
  refine lv_aload_n hx hb dL_law_318 rfl (lv_at hl 1 rfl) ?_
  refine lw_callVi (rest := []) F hK haB hP hS K4_0.1 rfl (c_X4_letGo l dC dI cy a ha 0 K4_0 M  h1) (cwV 0 hts (gV wd_ml_L_41 wd_im_X4_letGo wd_se_X4_X4_letGo wd_ini_X4 wd_co_X4_letGo) rfl rfl rfl hd_X4_letGo ⟨(Nat.le_of_ble_eq_true rfl), (Nat.le_of_ble_eq_true rfl)⟩) rfl hl.1 rfl (Nat.le_of_ble_eq_true rfl) dL_law_319 ⟨(Nat.le_of_ble_eq_true rfl), (Nat.le_of_ble_eq_true rfl)⟩ (fun H locs hP hS => ?_)
  refine lv_aload_n hx hb dL_law_322 rfl (lv_at hl 2 rfl) ?_
  refine lw_callVi (rest := [.int r]) F hK haB hP hS K5_157.1 rfl (c_X5_letGo l dC dI cy a ha 157 K5_157 M1  h2) (cwV 0 hts (gV wd_ml_L_45 wd_im_X5_letGo wd_se_X5_X5_letGo wd_ini_X5 wd_co_X5_letGo) rfl rfl rfl hd_X5_letGo ⟨(Nat.le_of_ble_eq_true rfl), (Nat.le_of_ble_eq_true rfl)⟩) rfl hl.1 rfl (Nat.le_of_ble_eq_true rfl) dL_law_323 ⟨(Nat.le_of_ble_eq_true rfl), (Nat.le_of_ble_eq_true rfl)⟩ (fun H locs hP hS => ?_)
  refine lv_icmp_eq (tgt := 624) hx hb dL_law_326 (by decide) (fun _ => ?_) (fun h => absurd rfl h)
  exact ih _ _ _ _ hI hP hS hl
set_option maxHeartbeats 4000000 in
set_option maxRecDepth 100000 in
theorem law_finish {p : Program} {l : Launch} {e : Env} {s : State} {m : MethodId} {below : List Frame} {meth : Method} {c : Code} {dC : Nat → ClassId} {dI : Nat → Nat → Nat} {cy : Nat → ClassId} {a : Nat → Nat} {b L : Nat} {xs : Nat → Int32} (hL : L ≤ 2560) (C0 : lw_At p s m meth c b L xs) (hK : va_K (dC, dI) vwCl (tysU cy) s) (ha : injU a) (haB : ∀ i, i < 162 → s.heap.size ≤ a i) {Inv : Nat → Mem → Prop} (S : ST_all Inv) {k : Nat} (hk : k < 512) (hkL : 5 * k + 5 ≤ L) {M : Mem} {H : Heap} {locs : List Loc} {ls : Array Slot} (hI : Inv k M) (hP : va_P (dC, dI) vwCl (wsM a cy M) H) (hS : va_S (fun q => s.heap.size ≤ q) s.heap H locs) (hl : lv_has ls 4 [(0, .ref b), (1, .ref (a 0)), (2, .ref (a 157)), (3, .int (nI (5 * k)))]) (ih : ∀ (M : Mem) (H : Heap) (locs : List Loc) (ls : Array Slot), Inv (k + 1) M → va_P (dC, dI) vwCl (wsM a cy M) H → va_S (fun q => s.heap.size ≤ q) s.heap H locs → lv_has ls 4 [(0, .ref b), (1, .ref (a 0)), (2, .ref (a 157)), (3, .int (nI (5 * k)))] → W p l e room_1 s m #[Value.ref b] below meth c H locs 162 5451 (lw_Z below #[Value.ref b] s) (F0 m 624 ls [])) : W p l e room_1 s m #[Value.ref b] below meth c H locs 162 5451 (lw_Z below #[Value.ref b] s) (F0 m 331 ls []) := by
  obtain ⟨hx, hb, hr, hml, hown, hts0, hX, hbl, hlocks, hgv⟩ := C0
  have hts : ∀ w ∈ wsL_law, w.before #[Value.ref b] s = true := fun w h => hts0 w (lin_all w h)
  have hbA : ¬ (fun q : Nat => s.heap.size ≤ q) b := Nat.not_le.mpr hbl
  have F : CallFix p m c cL_law 4 s #[Value.ref b] wsL_law RL := ⟨hx, hb, hml, hown, hts⟩
  obtain ⟨r, M1, M2, h1, h2, hI⟩ := S.2.2.2.2.2.2.2.2.2.1 k M  hk hI
  refine lv_aload_n hx hb dL_law_331 rfl (lv_at hl 1 rfl) ?_
  refine lw_callVi (rest := []) F hK haB hP hS K4_0.1 rfl (c_X4_finish l dC dI cy a ha 0 K4_0 M  h1) (cwV 0 hts (gV wd_ml_L_46 wd_im_X4_finish wd_se_X4_X4_finish wd_ini_X4 wd_co_X4_finish) rfl rfl rfl hd_X4_finish ⟨(Nat.le_of_ble_eq_true rfl), (Nat.le_of_ble_eq_true rfl)⟩) rfl hl.1 rfl (Nat.le_of_ble_eq_true rfl) dL_law_332 ⟨(Nat.le_of_ble_eq_true rfl), (Nat.le_of_ble_eq_true rfl)⟩ (fun H locs hP hS => ?_)
  refine lv_aload_n hx hb dL_law_335 rfl (lv_at hl 2 rfl) ?_
  refine lw_callVi (rest := [.int r]) F hK haB hP hS K5_157.1 rfl (c_X5_finish l dC dI cy a ha 157 K5_157 M1  h2) (cwV 0 hts (gV wd_ml_L_49 wd_im_X5_finish wd_se_X5_X5_finish wd_ini_X5 wd_co_X5_finish) rfl rfl rfl hd_X5_finish ⟨(Nat.le_of_ble_eq_true rfl), (Nat.le_of_ble_eq_true rfl)⟩) rfl hl.1 rfl (Nat.le_of_ble_eq_true rfl) dL_law_336 ⟨(Nat.le_of_ble_eq_true rfl), (Nat.le_of_ble_eq_true rfl)⟩ (fun H locs hP hS => ?_)
  refine lv_icmp_eq (tgt := 624) hx hb dL_law_339 (by decide) (fun _ => ?_) (fun h => absurd rfl h)
  exact ih _ _ _ _ hI hP hS hl
set_option maxHeartbeats 4000000 in
set_option maxRecDepth 100000 in
theorem law_told {p : Program} {l : Launch} {e : Env} {s : State} {m : MethodId} {below : List Frame} {meth : Method} {c : Code} {dC : Nat → ClassId} {dI : Nat → Nat → Nat} {cy : Nat → ClassId} {a : Nat → Nat} {b L : Nat} {xs : Nat → Int32} (hL : L ≤ 2560) (C0 : lw_At p s m meth c b L xs) (hK : va_K (dC, dI) vwCl (tysU cy) s) (ha : injU a) (haB : ∀ i, i < 162 → s.heap.size ≤ a i) {Inv : Nat → Mem → Prop} (S : ST_all Inv) {k : Nat} (hk : k < 512) (hkL : 5 * k + 5 ≤ L) {M : Mem} {H : Heap} {locs : List Loc} {ls : Array Slot} (hI : Inv k M) (hP : va_P (dC, dI) vwCl (wsM a cy M) H) (hS : va_S (fun q => s.heap.size ≤ q) s.heap H locs) (hl : lv_has ls 4 [(0, .ref b), (1, .ref (a 0)), (2, .ref (a 157)), (3, .int (nI (5 * k)))]) (ih : ∀ (M : Mem) (H : Heap) (locs : List Loc) (ls : Array Slot), Inv (k + 1) M → va_P (dC, dI) vwCl (wsM a cy M) H → va_S (fun q => s.heap.size ≤ q) s.heap H locs → lv_has ls 4 [(0, .ref b), (1, .ref (a 0)), (2, .ref (a 157)), (3, .int (nI (5 * k)))] → W p l e room_1 s m #[Value.ref b] below meth c H locs 162 5451 (lw_Z below #[Value.ref b] s) (F0 m 624 ls [])) : W p l e room_1 s m #[Value.ref b] below meth c H locs 162 5451 (lw_Z below #[Value.ref b] s) (F0 m 344 ls []) := by
  obtain ⟨hx, hb, hr, hml, hown, hts0, hX, hbl, hlocks, hgv⟩ := C0
  have hts : ∀ w ∈ wsL_law, w.before #[Value.ref b] s = true := fun w h => hts0 w (lin_all w h)
  have hbA : ¬ (fun q : Nat => s.heap.size ≤ q) b := Nat.not_le.mpr hbl
  have F : CallFix p m c cL_law 4 s #[Value.ref b] wsL_law RL := ⟨hx, hb, hml, hown, hts⟩
  obtain ⟨r, M2, h1, h2, hI⟩ := S.2.2.2.2.2.2.2.2.2.2.1 k M (xs (5 * k + 1)) hk hI
  refine lv_aload_n hx hb dL_law_344 rfl (lv_at hl 1 rfl) ?_
  refine lv_aload_n hx hb dL_law_345 rfl (lv_at hl 0 rfl) ?_
  refine lv_iload_n hx hb dL_law_346 rfl (lv_at hl 3 rfl) ?_
  refine lv_iconst (v := 1) hx hb dL_law_347 (by decide) ?_
  refine lv_iadd hx hb dL_law_348 ?_
  refine va_sld hx hb hX hbl hbA hS (law_ix (j := 1) (by omega) hL).1 dL_law_349 ?_
  rw [show (nI (5 * k) + (1 : Int32)).toNatClampNeg = 5 * k + 1 from (law_ix (j := 1) (by omega) hL).2]
  refine lw_callVi (rest := []) F hK haB hP hS K4_0.1 rfl (c_X4_told l dC dI cy a ha 0 K4_0 M (xs (5 * k + 1)) h1) (cwV 1 hts (gV wd_ml_L_50 wd_im_X4_told wd_se_X4_X4_told wd_ini_X4 wd_co_X4_told) rfl rfl rfl hd_X4_told ⟨(Nat.le_of_ble_eq_true rfl), (Nat.le_of_ble_eq_true rfl)⟩) rfl hl.1 rfl (Nat.le_of_ble_eq_true rfl) dL_law_350 ⟨(Nat.le_of_ble_eq_true rfl), (Nat.le_of_ble_eq_true rfl)⟩ (fun H locs hP hS => ?_)
  refine lv_aload_n hx hb dL_law_353 rfl (lv_at hl 2 rfl) ?_
  refine lv_aload_n hx hb dL_law_354 rfl (lv_at hl 0 rfl) ?_
  refine lv_iload_n hx hb dL_law_355 rfl (lv_at hl 3 rfl) ?_
  refine lv_iconst (v := 1) hx hb dL_law_356 (by decide) ?_
  refine lv_iadd hx hb dL_law_357 ?_
  refine va_sld hx hb hX hbl hbA hS (law_ix (j := 1) (by omega) hL).1 dL_law_358 ?_
  rw [show (nI (5 * k) + (1 : Int32)).toNatClampNeg = 5 * k + 1 from (law_ix (j := 1) (by omega) hL).2]
  refine lw_callVi (rest := [.int r]) F hK haB hP hS K5_157.1 rfl (c_X5_told l dC dI cy a ha 157 K5_157 M (xs (5 * k + 1)) h2) (cwV 1 hts (gV wd_ml_L_53 wd_im_X5_told wd_se_X5_X5_told wd_ini_X5 wd_co_X5_told) rfl rfl rfl hd_X5_told ⟨(Nat.le_of_ble_eq_true rfl), (Nat.le_of_ble_eq_true rfl)⟩) rfl hl.1 rfl (Nat.le_of_ble_eq_true rfl) dL_law_359 ⟨(Nat.le_of_ble_eq_true rfl), (Nat.le_of_ble_eq_true rfl)⟩ (fun H locs hP hS => ?_)
  refine lv_icmp_eq (tgt := 624) hx hb dL_law_362 (by decide) (fun _ => ?_) (fun h => absurd rfl h)
  exact ih _ _ _ _ hI hP hS hl
set_option maxHeartbeats 4000000 in
set_option maxRecDepth 100000 in
theorem law_part {p : Program} {l : Launch} {e : Env} {s : State} {m : MethodId} {below : List Frame} {meth : Method} {c : Code} {dC : Nat → ClassId} {dI : Nat → Nat → Nat} {cy : Nat → ClassId} {a : Nat → Nat} {b L : Nat} {xs : Nat → Int32} (hL : L ≤ 2560) (C0 : lw_At p s m meth c b L xs) (hK : va_K (dC, dI) vwCl (tysU cy) s) (ha : injU a) (haB : ∀ i, i < 162 → s.heap.size ≤ a i) {Inv : Nat → Mem → Prop} (S : ST_all Inv) {k : Nat} (hk : k < 512) (hkL : 5 * k + 5 ≤ L) {M : Mem} {H : Heap} {locs : List Loc} {ls : Array Slot} (hI : Inv k M) (hP : va_P (dC, dI) vwCl (wsM a cy M) H) (hS : va_S (fun q => s.heap.size ≤ q) s.heap H locs) (hl : lv_has ls 4 [(0, .ref b), (1, .ref (a 0)), (2, .ref (a 157)), (3, .int (nI (5 * k)))]) (ih : ∀ (M : Mem) (H : Heap) (locs : List Loc) (ls : Array Slot), Inv (k + 1) M → va_P (dC, dI) vwCl (wsM a cy M) H → va_S (fun q => s.heap.size ≤ q) s.heap H locs → lv_has ls 4 [(0, .ref b), (1, .ref (a 0)), (2, .ref (a 157)), (3, .int (nI (5 * k)))] → W p l e room_1 s m #[Value.ref b] below meth c H locs 162 5451 (lw_Z below #[Value.ref b] s) (F0 m 624 ls [])) : W p l e room_1 s m #[Value.ref b] below meth c H locs 162 5451 (lw_Z below #[Value.ref b] s) (F0 m 367 ls []) := by
  obtain ⟨hx, hb, hr, hml, hown, hts0, hX, hbl, hlocks, hgv⟩ := C0
  have hts : ∀ w ∈ wsL_law, w.before #[Value.ref b] s = true := fun w h => hts0 w (lin_all w h)
  have hbA : ¬ (fun q : Nat => s.heap.size ≤ q) b := Nat.not_le.mpr hbl
  have F : CallFix p m c cL_law 4 s #[Value.ref b] wsL_law RL := ⟨hx, hb, hml, hown, hts⟩
  obtain ⟨r, h1, h2, hI⟩ := S.2.2.2.2.2.2.2.2.2.2.2.1 k M (xs (5 * k + 1)) (xs (5 * k + 2)) hk hI
  refine lv_aload_n hx hb dL_law_367 rfl (lv_at hl 1 rfl) ?_
  refine lv_aload_n hx hb dL_law_368 rfl (lv_at hl 0 rfl) ?_
  refine lv_iload_n hx hb dL_law_369 rfl (lv_at hl 3 rfl) ?_
  refine lv_iconst (v := 1) hx hb dL_law_370 (by decide) ?_
  refine lv_iadd hx hb dL_law_371 ?_
  refine va_sld hx hb hX hbl hbA hS (law_ix (j := 1) (by omega) hL).1 dL_law_372 ?_
  rw [show (nI (5 * k) + (1 : Int32)).toNatClampNeg = 5 * k + 1 from (law_ix (j := 1) (by omega) hL).2]
  refine lv_aload_n hx hb dL_law_373 rfl (lv_at hl 0 rfl) ?_
  refine lv_iload_n hx hb dL_law_374 rfl (lv_at hl 3 rfl) ?_
  refine lv_iconst (v := 2) hx hb dL_law_375 (by decide) ?_
  refine lv_iadd hx hb dL_law_376 ?_
  refine va_sld hx hb hX hbl hbA hS (law_ix (j := 2) (by omega) hL).1 dL_law_377 ?_
  rw [show (nI (5 * k) + (2 : Int32)).toNatClampNeg = 5 * k + 2 from (law_ix (j := 2) (by omega) hL).2]
  refine lw_callVi (rest := []) F hK haB hP hS K4_0.1 rfl (c_X4_part l dC dI cy a ha 0 K4_0 M (xs (5 * k + 1)) (xs (5 * k + 2)) h1) (cwV 2 hts (gV wd_ml_L_54 wd_im_X4_part wd_se_X4_X4_part wd_ini_X4 wd_co_X4_part) rfl rfl rfl hd_X4_part ⟨(Nat.le_of_ble_eq_true rfl), (Nat.le_of_ble_eq_true rfl)⟩) rfl hl.1 rfl (Nat.le_of_ble_eq_true rfl) dL_law_378 ⟨(Nat.le_of_ble_eq_true rfl), (Nat.le_of_ble_eq_true rfl)⟩ (fun H locs hP hS => ?_)
  refine lv_aload_n hx hb dL_law_381 rfl (lv_at hl 2 rfl) ?_
  refine lv_aload_n hx hb dL_law_382 rfl (lv_at hl 0 rfl) ?_
  refine lv_iload_n hx hb dL_law_383 rfl (lv_at hl 3 rfl) ?_
  refine lv_iconst (v := 1) hx hb dL_law_384 (by decide) ?_
  refine lv_iadd hx hb dL_law_385 ?_
  refine va_sld hx hb hX hbl hbA hS (law_ix (j := 1) (by omega) hL).1 dL_law_386 ?_
  rw [show (nI (5 * k) + (1 : Int32)).toNatClampNeg = 5 * k + 1 from (law_ix (j := 1) (by omega) hL).2]
  refine lv_aload_n hx hb dL_law_387 rfl (lv_at hl 0 rfl) ?_
  refine lv_iload_n hx hb dL_law_388 rfl (lv_at hl 3 rfl) ?_
  refine lv_iconst (v := 2) hx hb dL_law_389 (by decide) ?_
  refine lv_iadd hx hb dL_law_390 ?_
  refine va_sld hx hb hX hbl hbA hS (law_ix (j := 2) (by omega) hL).1 dL_law_391 ?_
  rw [show (nI (5 * k) + (2 : Int32)).toNatClampNeg = 5 * k + 2 from (law_ix (j := 2) (by omega) hL).2]
  refine lw_callVi (rest := [.int r]) F hK haB hP hS K5_157.1 rfl (c_X5_part l dC dI cy a ha 157 K5_157 M (xs (5 * k + 1)) (xs (5 * k + 2)) h2) (cwV 2 hts (gV wd_ml_L_57 wd_im_X5_part wd_se_X5_X5_part wd_ini_X5 wd_co_X5_part) rfl rfl rfl hd_X5_part ⟨(Nat.le_of_ble_eq_true rfl), (Nat.le_of_ble_eq_true rfl)⟩) rfl hl.1 rfl (Nat.le_of_ble_eq_true rfl) dL_law_392 ⟨(Nat.le_of_ble_eq_true rfl), (Nat.le_of_ble_eq_true rfl)⟩ (fun H locs hP hS => ?_)
  refine lv_icmp_eq (tgt := 624) hx hb dL_law_395 (by decide) (fun _ => ?_) (fun h => absurd rfl h)
  exact ih _ _ _ _ hI hP hS hl
set_option maxHeartbeats 4000000 in
set_option maxRecDepth 100000 in
theorem law_channelOf {p : Program} {l : Launch} {e : Env} {s : State} {m : MethodId} {below : List Frame} {meth : Method} {c : Code} {dC : Nat → ClassId} {dI : Nat → Nat → Nat} {cy : Nat → ClassId} {a : Nat → Nat} {b L : Nat} {xs : Nat → Int32} (hL : L ≤ 2560) (C0 : lw_At p s m meth c b L xs) (hK : va_K (dC, dI) vwCl (tysU cy) s) (ha : injU a) (haB : ∀ i, i < 162 → s.heap.size ≤ a i) {Inv : Nat → Mem → Prop} (S : ST_all Inv) {k : Nat} (hk : k < 512) (hkL : 5 * k + 5 ≤ L) {M : Mem} {H : Heap} {locs : List Loc} {ls : Array Slot} (hI : Inv k M) (hP : va_P (dC, dI) vwCl (wsM a cy M) H) (hS : va_S (fun q => s.heap.size ≤ q) s.heap H locs) (hl : lv_has ls 4 [(0, .ref b), (1, .ref (a 0)), (2, .ref (a 157)), (3, .int (nI (5 * k)))]) (ih : ∀ (M : Mem) (H : Heap) (locs : List Loc) (ls : Array Slot), Inv (k + 1) M → va_P (dC, dI) vwCl (wsM a cy M) H → va_S (fun q => s.heap.size ≤ q) s.heap H locs → lv_has ls 4 [(0, .ref b), (1, .ref (a 0)), (2, .ref (a 157)), (3, .int (nI (5 * k)))] → W p l e room_1 s m #[Value.ref b] below meth c H locs 162 5451 (lw_Z below #[Value.ref b] s) (F0 m 624 ls [])) : W p l e room_1 s m #[Value.ref b] below meth c H locs 162 5451 (lw_Z below #[Value.ref b] s) (F0 m 400 ls []) := by
  obtain ⟨hx, hb, hr, hml, hown, hts0, hX, hbl, hlocks, hgv⟩ := C0
  have hts : ∀ w ∈ wsL_law, w.before #[Value.ref b] s = true := fun w h => hts0 w (lin_all w h)
  have hbA : ¬ (fun q : Nat => s.heap.size ≤ q) b := Nat.not_le.mpr hbl
  have F : CallFix p m c cL_law 4 s #[Value.ref b] wsL_law RL := ⟨hx, hb, hml, hown, hts⟩
  obtain ⟨r, h1, h2, hI⟩ := S.2.2.2.2.2.2.2.2.2.2.2.2.1 k M (xs (5 * k + 1)) (xs (5 * k + 2)) hk hI
  refine lv_aload_n hx hb dL_law_400 rfl (lv_at hl 1 rfl) ?_
  refine lv_aload_n hx hb dL_law_401 rfl (lv_at hl 0 rfl) ?_
  refine lv_iload_n hx hb dL_law_402 rfl (lv_at hl 3 rfl) ?_
  refine lv_iconst (v := 1) hx hb dL_law_403 (by decide) ?_
  refine lv_iadd hx hb dL_law_404 ?_
  refine va_sld hx hb hX hbl hbA hS (law_ix (j := 1) (by omega) hL).1 dL_law_405 ?_
  rw [show (nI (5 * k) + (1 : Int32)).toNatClampNeg = 5 * k + 1 from (law_ix (j := 1) (by omega) hL).2]
  refine lv_aload_n hx hb dL_law_406 rfl (lv_at hl 0 rfl) ?_
  refine lv_iload_n hx hb dL_law_407 rfl (lv_at hl 3 rfl) ?_
  refine lv_iconst (v := 2) hx hb dL_law_408 (by decide) ?_
  refine lv_iadd hx hb dL_law_409 ?_
  refine va_sld hx hb hX hbl hbA hS (law_ix (j := 2) (by omega) hL).1 dL_law_410 ?_
  rw [show (nI (5 * k) + (2 : Int32)).toNatClampNeg = 5 * k + 2 from (law_ix (j := 2) (by omega) hL).2]
  refine lw_callVi (rest := []) F hK haB hP hS K4_0.1 rfl (c_X4_channelOf l dC dI cy a ha 0 K4_0 M (xs (5 * k + 1)) (xs (5 * k + 2)) h1) (cwV 2 hts (gV wd_ml_L_58 wd_im_X4_channelOf wd_se_X4_X4_channelOf wd_ini_X4 wd_co_X4_channelOf) rfl rfl rfl hd_X4_channelOf ⟨(Nat.le_of_ble_eq_true rfl), (Nat.le_of_ble_eq_true rfl)⟩) rfl hl.1 rfl (Nat.le_of_ble_eq_true rfl) dL_law_411 ⟨(Nat.le_of_ble_eq_true rfl), (Nat.le_of_ble_eq_true rfl)⟩ (fun H locs hP hS => ?_)
  refine lv_aload_n hx hb dL_law_414 rfl (lv_at hl 2 rfl) ?_
  refine lv_aload_n hx hb dL_law_415 rfl (lv_at hl 0 rfl) ?_
  refine lv_iload_n hx hb dL_law_416 rfl (lv_at hl 3 rfl) ?_
  refine lv_iconst (v := 1) hx hb dL_law_417 (by decide) ?_
  refine lv_iadd hx hb dL_law_418 ?_
  refine va_sld hx hb hX hbl hbA hS (law_ix (j := 1) (by omega) hL).1 dL_law_419 ?_
  rw [show (nI (5 * k) + (1 : Int32)).toNatClampNeg = 5 * k + 1 from (law_ix (j := 1) (by omega) hL).2]
  refine lv_aload_n hx hb dL_law_420 rfl (lv_at hl 0 rfl) ?_
  refine lv_iload_n hx hb dL_law_421 rfl (lv_at hl 3 rfl) ?_
  refine lv_iconst (v := 2) hx hb dL_law_422 (by decide) ?_
  refine lv_iadd hx hb dL_law_423 ?_
  refine va_sld hx hb hX hbl hbA hS (law_ix (j := 2) (by omega) hL).1 dL_law_424 ?_
  rw [show (nI (5 * k) + (2 : Int32)).toNatClampNeg = 5 * k + 2 from (law_ix (j := 2) (by omega) hL).2]
  refine lw_callVi (rest := [.int r]) F hK haB hP hS K5_157.1 rfl (c_X5_channelOf l dC dI cy a ha 157 K5_157 M (xs (5 * k + 1)) (xs (5 * k + 2)) h2) (cwV 2 hts (gV wd_ml_L_61 wd_im_X5_channelOf wd_se_X5_X5_channelOf wd_ini_X5 wd_co_X5_channelOf) rfl rfl rfl hd_X5_channelOf ⟨(Nat.le_of_ble_eq_true rfl), (Nat.le_of_ble_eq_true rfl)⟩) rfl hl.1 rfl (Nat.le_of_ble_eq_true rfl) dL_law_425 ⟨(Nat.le_of_ble_eq_true rfl), (Nat.le_of_ble_eq_true rfl)⟩ (fun H locs hP hS => ?_)
  refine lv_icmp_eq (tgt := 624) hx hb dL_law_428 (by decide) (fun _ => ?_) (fun h => absurd rfl h)
  exact ih _ _ _ _ hI hP hS hl
set_option maxHeartbeats 4000000 in
set_option maxRecDepth 100000 in
theorem law_between {p : Program} {l : Launch} {e : Env} {s : State} {m : MethodId} {below : List Frame} {meth : Method} {c : Code} {dC : Nat → ClassId} {dI : Nat → Nat → Nat} {cy : Nat → ClassId} {a : Nat → Nat} {b L : Nat} {xs : Nat → Int32} (hL : L ≤ 2560) (C0 : lw_At p s m meth c b L xs) (hK : va_K (dC, dI) vwCl (tysU cy) s) (ha : injU a) (haB : ∀ i, i < 162 → s.heap.size ≤ a i) {Inv : Nat → Mem → Prop} (S : ST_all Inv) {k : Nat} (hk : k < 512) (hkL : 5 * k + 5 ≤ L) {M : Mem} {H : Heap} {locs : List Loc} {ls : Array Slot} (hI : Inv k M) (hP : va_P (dC, dI) vwCl (wsM a cy M) H) (hS : va_S (fun q => s.heap.size ≤ q) s.heap H locs) (hl : lv_has ls 4 [(0, .ref b), (1, .ref (a 0)), (2, .ref (a 157)), (3, .int (nI (5 * k)))]) (ih : ∀ (M : Mem) (H : Heap) (locs : List Loc) (ls : Array Slot), Inv (k + 1) M → va_P (dC, dI) vwCl (wsM a cy M) H → va_S (fun q => s.heap.size ≤ q) s.heap H locs → lv_has ls 4 [(0, .ref b), (1, .ref (a 0)), (2, .ref (a 157)), (3, .int (nI (5 * k)))] → W p l e room_1 s m #[Value.ref b] below meth c H locs 162 5451 (lw_Z below #[Value.ref b] s) (F0 m 624 ls [])) : W p l e room_1 s m #[Value.ref b] below meth c H locs 162 5451 (lw_Z below #[Value.ref b] s) (F0 m 433 ls []) := by
  obtain ⟨hx, hb, hr, hml, hown, hts0, hX, hbl, hlocks, hgv⟩ := C0
  have hts : ∀ w ∈ wsL_law, w.before #[Value.ref b] s = true := fun w h => hts0 w (lin_all w h)
  have hbA : ¬ (fun q : Nat => s.heap.size ≤ q) b := Nat.not_le.mpr hbl
  have F : CallFix p m c cL_law 4 s #[Value.ref b] wsL_law RL := ⟨hx, hb, hml, hown, hts⟩
  obtain ⟨r, h1, h2, hI⟩ := S.2.2.2.2.2.2.2.2.2.2.2.2.2.1 k M (xs (5 * k + 1)) (xs (5 * k + 2)) hk hI
  refine lv_aload_n hx hb dL_law_433 rfl (lv_at hl 1 rfl) ?_
  refine lv_aload_n hx hb dL_law_434 rfl (lv_at hl 0 rfl) ?_
  refine lv_iload_n hx hb dL_law_435 rfl (lv_at hl 3 rfl) ?_
  refine lv_iconst (v := 1) hx hb dL_law_436 (by decide) ?_
  refine lv_iadd hx hb dL_law_437 ?_
  refine va_sld hx hb hX hbl hbA hS (law_ix (j := 1) (by omega) hL).1 dL_law_438 ?_
  rw [show (nI (5 * k) + (1 : Int32)).toNatClampNeg = 5 * k + 1 from (law_ix (j := 1) (by omega) hL).2]
  refine lv_aload_n hx hb dL_law_439 rfl (lv_at hl 0 rfl) ?_
  refine lv_iload_n hx hb dL_law_440 rfl (lv_at hl 3 rfl) ?_
  refine lv_iconst (v := 2) hx hb dL_law_441 (by decide) ?_
  refine lv_iadd hx hb dL_law_442 ?_
  refine va_sld hx hb hX hbl hbA hS (law_ix (j := 2) (by omega) hL).1 dL_law_443 ?_
  rw [show (nI (5 * k) + (2 : Int32)).toNatClampNeg = 5 * k + 2 from (law_ix (j := 2) (by omega) hL).2]
  refine lw_callVi (rest := []) F hK haB hP hS K4_0.1 rfl (c_X4_between l dC dI cy a ha 0 K4_0 M (xs (5 * k + 1)) (xs (5 * k + 2)) h1) (cwV 2 hts (gV wd_ml_L_62 wd_im_X4_between wd_se_X4_X4_between wd_ini_X4 wd_co_X4_between) rfl rfl rfl hd_X4_between ⟨(Nat.le_of_ble_eq_true rfl), (Nat.le_of_ble_eq_true rfl)⟩) rfl hl.1 rfl (Nat.le_of_ble_eq_true rfl) dL_law_444 ⟨(Nat.le_of_ble_eq_true rfl), (Nat.le_of_ble_eq_true rfl)⟩ (fun H locs hP hS => ?_)
  refine lv_aload_n hx hb dL_law_447 rfl (lv_at hl 2 rfl) ?_
  refine lv_aload_n hx hb dL_law_448 rfl (lv_at hl 0 rfl) ?_
  refine lv_iload_n hx hb dL_law_449 rfl (lv_at hl 3 rfl) ?_
  refine lv_iconst (v := 1) hx hb dL_law_450 (by decide) ?_
  refine lv_iadd hx hb dL_law_451 ?_
  refine va_sld hx hb hX hbl hbA hS (law_ix (j := 1) (by omega) hL).1 dL_law_452 ?_
  rw [show (nI (5 * k) + (1 : Int32)).toNatClampNeg = 5 * k + 1 from (law_ix (j := 1) (by omega) hL).2]
  refine lv_aload_n hx hb dL_law_453 rfl (lv_at hl 0 rfl) ?_
  refine lv_iload_n hx hb dL_law_454 rfl (lv_at hl 3 rfl) ?_
  refine lv_iconst (v := 2) hx hb dL_law_455 (by decide) ?_
  refine lv_iadd hx hb dL_law_456 ?_
  refine va_sld hx hb hX hbl hbA hS (law_ix (j := 2) (by omega) hL).1 dL_law_457 ?_
  rw [show (nI (5 * k) + (2 : Int32)).toNatClampNeg = 5 * k + 2 from (law_ix (j := 2) (by omega) hL).2]
  refine lw_callVi (rest := [.int r]) F hK haB hP hS K5_157.1 rfl (c_X5_between l dC dI cy a ha 157 K5_157 M (xs (5 * k + 1)) (xs (5 * k + 2)) h2) (cwV 2 hts (gV wd_ml_L_65 wd_im_X5_between wd_se_X5_X5_between wd_ini_X5 wd_co_X5_between) rfl rfl rfl hd_X5_between ⟨(Nat.le_of_ble_eq_true rfl), (Nat.le_of_ble_eq_true rfl)⟩) rfl hl.1 rfl (Nat.le_of_ble_eq_true rfl) dL_law_458 ⟨(Nat.le_of_ble_eq_true rfl), (Nat.le_of_ble_eq_true rfl)⟩ (fun H locs hP hS => ?_)
  refine lv_icmp_eq (tgt := 624) hx hb dL_law_461 (by decide) (fun _ => ?_) (fun h => absurd rfl h)
  exact ih _ _ _ _ hI hP hS hl
set_option maxHeartbeats 4000000 in
set_option maxRecDepth 100000 in
theorem law_record {p : Program} {l : Launch} {e : Env} {s : State} {m : MethodId} {below : List Frame} {meth : Method} {c : Code} {dC : Nat → ClassId} {dI : Nat → Nat → Nat} {cy : Nat → ClassId} {a : Nat → Nat} {b L : Nat} {xs : Nat → Int32} (hL : L ≤ 2560) (C0 : lw_At p s m meth c b L xs) (hK : va_K (dC, dI) vwCl (tysU cy) s) (ha : injU a) (haB : ∀ i, i < 162 → s.heap.size ≤ a i) {Inv : Nat → Mem → Prop} (S : ST_all Inv) {k : Nat} (hk : k < 512) (hkL : 5 * k + 5 ≤ L) {M : Mem} {H : Heap} {locs : List Loc} {ls : Array Slot} (hI : Inv k M) (hP : va_P (dC, dI) vwCl (wsM a cy M) H) (hS : va_S (fun q => s.heap.size ≤ q) s.heap H locs) (hl : lv_has ls 4 [(0, .ref b), (1, .ref (a 0)), (2, .ref (a 157)), (3, .int (nI (5 * k)))]) (ih : ∀ (M : Mem) (H : Heap) (locs : List Loc) (ls : Array Slot), Inv (k + 1) M → va_P (dC, dI) vwCl (wsM a cy M) H → va_S (fun q => s.heap.size ≤ q) s.heap H locs → lv_has ls 4 [(0, .ref b), (1, .ref (a 0)), (2, .ref (a 157)), (3, .int (nI (5 * k)))] → W p l e room_1 s m #[Value.ref b] below meth c H locs 162 5451 (lw_Z below #[Value.ref b] s) (F0 m 624 ls [])) : W p l e room_1 s m #[Value.ref b] below meth c H locs 162 5451 (lw_Z below #[Value.ref b] s) (F0 m 466 ls []) := by
  obtain ⟨hx, hb, hr, hml, hown, hts0, hX, hbl, hlocks, hgv⟩ := C0
  have hts : ∀ w ∈ wsL_law, w.before #[Value.ref b] s = true := fun w h => hts0 w (lin_all w h)
  have hbA : ¬ (fun q : Nat => s.heap.size ≤ q) b := Nat.not_le.mpr hbl
  have F : CallFix p m c cL_law 4 s #[Value.ref b] wsL_law RL := ⟨hx, hb, hml, hown, hts⟩
  obtain ⟨r, h1, h2, hI⟩ := S.2.2.2.2.2.2.2.2.2.2.2.2.2.2.1 k M (xs (5 * k + 1)) (xs (5 * k + 2)) hk hI
  refine lv_aload_n hx hb dL_law_466 rfl (lv_at hl 1 rfl) ?_
  refine lv_aload_n hx hb dL_law_467 rfl (lv_at hl 0 rfl) ?_
  refine lv_iload_n hx hb dL_law_468 rfl (lv_at hl 3 rfl) ?_
  refine lv_iconst (v := 1) hx hb dL_law_469 (by decide) ?_
  refine lv_iadd hx hb dL_law_470 ?_
  refine va_sld hx hb hX hbl hbA hS (law_ix (j := 1) (by omega) hL).1 dL_law_471 ?_
  rw [show (nI (5 * k) + (1 : Int32)).toNatClampNeg = 5 * k + 1 from (law_ix (j := 1) (by omega) hL).2]
  refine lv_aload_n hx hb dL_law_472 rfl (lv_at hl 0 rfl) ?_
  refine lv_iload_n hx hb dL_law_473 rfl (lv_at hl 3 rfl) ?_
  refine lv_iconst (v := 2) hx hb dL_law_474 (by decide) ?_
  refine lv_iadd hx hb dL_law_475 ?_
  refine va_sld hx hb hX hbl hbA hS (law_ix (j := 2) (by omega) hL).1 dL_law_476 ?_
  rw [show (nI (5 * k) + (2 : Int32)).toNatClampNeg = 5 * k + 2 from (law_ix (j := 2) (by omega) hL).2]
  refine lw_callVi (rest := []) F hK haB hP hS K4_0.1 rfl (c_X4_record l dC dI cy a ha 0 K4_0 M (xs (5 * k + 1)) (xs (5 * k + 2)) h1) (cwV 2 hts (gV wd_ml_L_66 wd_im_X4_record wd_se_X4_X4_record wd_ini_X4 wd_co_X4_record) rfl rfl rfl hd_X4_record ⟨(Nat.le_of_ble_eq_true rfl), (Nat.le_of_ble_eq_true rfl)⟩) rfl hl.1 rfl (Nat.le_of_ble_eq_true rfl) dL_law_477 ⟨(Nat.le_of_ble_eq_true rfl), (Nat.le_of_ble_eq_true rfl)⟩ (fun H locs hP hS => ?_)
  refine lv_aload_n hx hb dL_law_480 rfl (lv_at hl 2 rfl) ?_
  refine lv_aload_n hx hb dL_law_481 rfl (lv_at hl 0 rfl) ?_
  refine lv_iload_n hx hb dL_law_482 rfl (lv_at hl 3 rfl) ?_
  refine lv_iconst (v := 1) hx hb dL_law_483 (by decide) ?_
  refine lv_iadd hx hb dL_law_484 ?_
  refine va_sld hx hb hX hbl hbA hS (law_ix (j := 1) (by omega) hL).1 dL_law_485 ?_
  rw [show (nI (5 * k) + (1 : Int32)).toNatClampNeg = 5 * k + 1 from (law_ix (j := 1) (by omega) hL).2]
  refine lv_aload_n hx hb dL_law_486 rfl (lv_at hl 0 rfl) ?_
  refine lv_iload_n hx hb dL_law_487 rfl (lv_at hl 3 rfl) ?_
  refine lv_iconst (v := 2) hx hb dL_law_488 (by decide) ?_
  refine lv_iadd hx hb dL_law_489 ?_
  refine va_sld hx hb hX hbl hbA hS (law_ix (j := 2) (by omega) hL).1 dL_law_490 ?_
  rw [show (nI (5 * k) + (2 : Int32)).toNatClampNeg = 5 * k + 2 from (law_ix (j := 2) (by omega) hL).2]
  refine lw_callVi (rest := [.int r]) F hK haB hP hS K5_157.1 rfl (c_X5_record l dC dI cy a ha 157 K5_157 M (xs (5 * k + 1)) (xs (5 * k + 2)) h2) (cwV 2 hts (gV wd_ml_L_69 wd_im_X5_record wd_se_X5_X5_record wd_ini_X5 wd_co_X5_record) rfl rfl rfl hd_X5_record ⟨(Nat.le_of_ble_eq_true rfl), (Nat.le_of_ble_eq_true rfl)⟩) rfl hl.1 rfl (Nat.le_of_ble_eq_true rfl) dL_law_491 ⟨(Nat.le_of_ble_eq_true rfl), (Nat.le_of_ble_eq_true rfl)⟩ (fun H locs hP hS => ?_)
  refine lv_icmp_eq (tgt := 624) hx hb dL_law_494 (by decide) (fun _ => ?_) (fun h => absurd rfl h)
  exact ih _ _ _ _ hI hP hS hl
set_option maxHeartbeats 4000000 in
set_option maxRecDepth 100000 in
theorem law_ring {p : Program} {l : Launch} {e : Env} {s : State} {m : MethodId} {below : List Frame} {meth : Method} {c : Code} {dC : Nat → ClassId} {dI : Nat → Nat → Nat} {cy : Nat → ClassId} {a : Nat → Nat} {b L : Nat} {xs : Nat → Int32} (hL : L ≤ 2560) (C0 : lw_At p s m meth c b L xs) (hK : va_K (dC, dI) vwCl (tysU cy) s) (ha : injU a) (haB : ∀ i, i < 162 → s.heap.size ≤ a i) {Inv : Nat → Mem → Prop} (S : ST_all Inv) {k : Nat} (hk : k < 512) (hkL : 5 * k + 5 ≤ L) {M : Mem} {H : Heap} {locs : List Loc} {ls : Array Slot} (hI : Inv k M) (hP : va_P (dC, dI) vwCl (wsM a cy M) H) (hS : va_S (fun q => s.heap.size ≤ q) s.heap H locs) (hl : lv_has ls 4 [(0, .ref b), (1, .ref (a 0)), (2, .ref (a 157)), (3, .int (nI (5 * k)))]) (ih : ∀ (M : Mem) (H : Heap) (locs : List Loc) (ls : Array Slot), Inv (k + 1) M → va_P (dC, dI) vwCl (wsM a cy M) H → va_S (fun q => s.heap.size ≤ q) s.heap H locs → lv_has ls 4 [(0, .ref b), (1, .ref (a 0)), (2, .ref (a 157)), (3, .int (nI (5 * k)))] → W p l e room_1 s m #[Value.ref b] below meth c H locs 162 5451 (lw_Z below #[Value.ref b] s) (F0 m 624 ls [])) : W p l e room_1 s m #[Value.ref b] below meth c H locs 162 5451 (lw_Z below #[Value.ref b] s) (F0 m 499 ls []) := by
  obtain ⟨hx, hb, hr, hml, hown, hts0, hX, hbl, hlocks, hgv⟩ := C0
  have hts : ∀ w ∈ wsL_law, w.before #[Value.ref b] s = true := fun w h => hts0 w (lin_all w h)
  have hbA : ¬ (fun q : Nat => s.heap.size ≤ q) b := Nat.not_le.mpr hbl
  have F : CallFix p m c cL_law 4 s #[Value.ref b] wsL_law RL := ⟨hx, hb, hml, hown, hts⟩
  obtain ⟨r, M1, M2, h1, h2, hI⟩ := S.2.2.2.2.2.2.2.2.2.2.2.2.2.2.2.1 k M (xs (5 * k + 1)) hk hI
  refine lv_aload_n hx hb dL_law_499 rfl (lv_at hl 1 rfl) ?_
  refine lv_aload_n hx hb dL_law_500 rfl (lv_at hl 0 rfl) ?_
  refine lv_iload_n hx hb dL_law_501 rfl (lv_at hl 3 rfl) ?_
  refine lv_iconst (v := 1) hx hb dL_law_502 (by decide) ?_
  refine lv_iadd hx hb dL_law_503 ?_
  refine va_sld hx hb hX hbl hbA hS (law_ix (j := 1) (by omega) hL).1 dL_law_504 ?_
  rw [show (nI (5 * k) + (1 : Int32)).toNatClampNeg = 5 * k + 1 from (law_ix (j := 1) (by omega) hL).2]
  refine lw_callVi (rest := []) F hK haB hP hS K4_0.1 rfl (c_X4_ring l dC dI cy a ha 0 K4_0 M (xs (5 * k + 1)) h1) (cwV 1 hts (gV wd_ml_L_70 wd_im_X4_ring wd_se_X4_X4_ring wd_ini_X4 wd_co_X4_ring) rfl rfl rfl hd_X4_ring ⟨(Nat.le_of_ble_eq_true rfl), (Nat.le_of_ble_eq_true rfl)⟩) rfl hl.1 rfl (Nat.le_of_ble_eq_true rfl) dL_law_505 ⟨(Nat.le_of_ble_eq_true rfl), (Nat.le_of_ble_eq_true rfl)⟩ (fun H locs hP hS => ?_)
  refine lv_aload_n hx hb dL_law_508 rfl (lv_at hl 2 rfl) ?_
  refine lv_aload_n hx hb dL_law_509 rfl (lv_at hl 0 rfl) ?_
  refine lv_iload_n hx hb dL_law_510 rfl (lv_at hl 3 rfl) ?_
  refine lv_iconst (v := 1) hx hb dL_law_511 (by decide) ?_
  refine lv_iadd hx hb dL_law_512 ?_
  refine va_sld hx hb hX hbl hbA hS (law_ix (j := 1) (by omega) hL).1 dL_law_513 ?_
  rw [show (nI (5 * k) + (1 : Int32)).toNatClampNeg = 5 * k + 1 from (law_ix (j := 1) (by omega) hL).2]
  refine lw_callVi (rest := [.int r]) F hK haB hP hS K5_157.1 rfl (c_X5_ring l dC dI cy a ha 157 K5_157 M1 (xs (5 * k + 1)) h2) (cwV 1 hts (gV wd_ml_L_73 wd_im_X5_ring wd_se_X5_X5_ring wd_ini_X5 wd_co_X5_ring) rfl rfl rfl hd_X5_ring ⟨(Nat.le_of_ble_eq_true rfl), (Nat.le_of_ble_eq_true rfl)⟩) rfl hl.1 rfl (Nat.le_of_ble_eq_true rfl) dL_law_514 ⟨(Nat.le_of_ble_eq_true rfl), (Nat.le_of_ble_eq_true rfl)⟩ (fun H locs hP hS => ?_)
  refine lv_icmp_eq (tgt := 624) hx hb dL_law_517 (by decide) (fun _ => ?_) (fun h => absurd rfl h)
  exact ih _ _ _ _ hI hP hS hl
set_option maxHeartbeats 4000000 in
set_option maxRecDepth 100000 in
theorem law_waits {p : Program} {l : Launch} {e : Env} {s : State} {m : MethodId} {below : List Frame} {meth : Method} {c : Code} {dC : Nat → ClassId} {dI : Nat → Nat → Nat} {cy : Nat → ClassId} {a : Nat → Nat} {b L : Nat} {xs : Nat → Int32} (hL : L ≤ 2560) (C0 : lw_At p s m meth c b L xs) (hK : va_K (dC, dI) vwCl (tysU cy) s) (ha : injU a) (haB : ∀ i, i < 162 → s.heap.size ≤ a i) {Inv : Nat → Mem → Prop} (S : ST_all Inv) {k : Nat} (hk : k < 512) (hkL : 5 * k + 5 ≤ L) {M : Mem} {H : Heap} {locs : List Loc} {ls : Array Slot} (hI : Inv k M) (hP : va_P (dC, dI) vwCl (wsM a cy M) H) (hS : va_S (fun q => s.heap.size ≤ q) s.heap H locs) (hl : lv_has ls 4 [(0, .ref b), (1, .ref (a 0)), (2, .ref (a 157)), (3, .int (nI (5 * k)))]) (ih : ∀ (M : Mem) (H : Heap) (locs : List Loc) (ls : Array Slot), Inv (k + 1) M → va_P (dC, dI) vwCl (wsM a cy M) H → va_S (fun q => s.heap.size ≤ q) s.heap H locs → lv_has ls 4 [(0, .ref b), (1, .ref (a 0)), (2, .ref (a 157)), (3, .int (nI (5 * k)))] → W p l e room_1 s m #[Value.ref b] below meth c H locs 162 5451 (lw_Z below #[Value.ref b] s) (F0 m 624 ls [])) : W p l e room_1 s m #[Value.ref b] below meth c H locs 162 5451 (lw_Z below #[Value.ref b] s) (F0 m 522 ls []) := by
  obtain ⟨hx, hb, hr, hml, hown, hts0, hX, hbl, hlocks, hgv⟩ := C0
  have hts : ∀ w ∈ wsL_law, w.before #[Value.ref b] s = true := fun w h => hts0 w (lin_all w h)
  have hbA : ¬ (fun q : Nat => s.heap.size ≤ q) b := Nat.not_le.mpr hbl
  have F : CallFix p m c cL_law 4 s #[Value.ref b] wsL_law RL := ⟨hx, hb, hml, hown, hts⟩
  obtain ⟨r, h1, h2, hI⟩ := S.2.2.2.2.2.2.2.2.2.2.2.2.2.2.2.2.1 k M (xs (5 * k + 1)) hk hI
  refine lv_aload_n hx hb dL_law_522 rfl (lv_at hl 1 rfl) ?_
  refine lv_aload_n hx hb dL_law_523 rfl (lv_at hl 0 rfl) ?_
  refine lv_iload_n hx hb dL_law_524 rfl (lv_at hl 3 rfl) ?_
  refine lv_iconst (v := 1) hx hb dL_law_525 (by decide) ?_
  refine lv_iadd hx hb dL_law_526 ?_
  refine va_sld hx hb hX hbl hbA hS (law_ix (j := 1) (by omega) hL).1 dL_law_527 ?_
  rw [show (nI (5 * k) + (1 : Int32)).toNatClampNeg = 5 * k + 1 from (law_ix (j := 1) (by omega) hL).2]
  refine lw_callVi (rest := []) F hK haB hP hS K4_0.1 rfl (c_X4_waits l dC dI cy a ha 0 K4_0 M (xs (5 * k + 1)) h1) (cwV 1 hts (gV wd_ml_L_74 wd_im_X4_waits wd_se_X4_X4_waits wd_ini_X4 wd_co_X4_waits) rfl rfl rfl hd_X4_waits ⟨(Nat.le_of_ble_eq_true rfl), (Nat.le_of_ble_eq_true rfl)⟩) rfl hl.1 rfl (Nat.le_of_ble_eq_true rfl) dL_law_528 ⟨(Nat.le_of_ble_eq_true rfl), (Nat.le_of_ble_eq_true rfl)⟩ (fun H locs hP hS => ?_)
  refine lv_aload_n hx hb dL_law_531 rfl (lv_at hl 2 rfl) ?_
  refine lv_aload_n hx hb dL_law_532 rfl (lv_at hl 0 rfl) ?_
  refine lv_iload_n hx hb dL_law_533 rfl (lv_at hl 3 rfl) ?_
  refine lv_iconst (v := 1) hx hb dL_law_534 (by decide) ?_
  refine lv_iadd hx hb dL_law_535 ?_
  refine va_sld hx hb hX hbl hbA hS (law_ix (j := 1) (by omega) hL).1 dL_law_536 ?_
  rw [show (nI (5 * k) + (1 : Int32)).toNatClampNeg = 5 * k + 1 from (law_ix (j := 1) (by omega) hL).2]
  refine lw_callVi (rest := [.int r]) F hK haB hP hS K5_157.1 rfl (c_X5_waits l dC dI cy a ha 157 K5_157 M (xs (5 * k + 1)) h2) (cwV 1 hts (gV wd_ml_L_77 wd_im_X5_waits wd_se_X5_X5_waits wd_ini_X5 wd_co_X5_waits) rfl rfl rfl hd_X5_waits ⟨(Nat.le_of_ble_eq_true rfl), (Nat.le_of_ble_eq_true rfl)⟩) rfl hl.1 rfl (Nat.le_of_ble_eq_true rfl) dL_law_537 ⟨(Nat.le_of_ble_eq_true rfl), (Nat.le_of_ble_eq_true rfl)⟩ (fun H locs hP hS => ?_)
  refine lv_icmp_eq (tgt := 624) hx hb dL_law_540 (by decide) (fun _ => ?_) (fun h => absurd rfl h)
  exact ih _ _ _ _ hI hP hS hl
set_option maxHeartbeats 4000000 in
set_option maxRecDepth 100000 in
theorem law_inOrder {p : Program} {l : Launch} {e : Env} {s : State} {m : MethodId} {below : List Frame} {meth : Method} {c : Code} {dC : Nat → ClassId} {dI : Nat → Nat → Nat} {cy : Nat → ClassId} {a : Nat → Nat} {b L : Nat} {xs : Nat → Int32} (hL : L ≤ 2560) (C0 : lw_At p s m meth c b L xs) (hK : va_K (dC, dI) vwCl (tysU cy) s) (ha : injU a) (haB : ∀ i, i < 162 → s.heap.size ≤ a i) {Inv : Nat → Mem → Prop} (S : ST_all Inv) {k : Nat} (hk : k < 512) (hkL : 5 * k + 5 ≤ L) {M : Mem} {H : Heap} {locs : List Loc} {ls : Array Slot} (hI : Inv k M) (hP : va_P (dC, dI) vwCl (wsM a cy M) H) (hS : va_S (fun q => s.heap.size ≤ q) s.heap H locs) (hl : lv_has ls 4 [(0, .ref b), (1, .ref (a 0)), (2, .ref (a 157)), (3, .int (nI (5 * k)))]) (ih : ∀ (M : Mem) (H : Heap) (locs : List Loc) (ls : Array Slot), Inv (k + 1) M → va_P (dC, dI) vwCl (wsM a cy M) H → va_S (fun q => s.heap.size ≤ q) s.heap H locs → lv_has ls 4 [(0, .ref b), (1, .ref (a 0)), (2, .ref (a 157)), (3, .int (nI (5 * k)))] → W p l e room_1 s m #[Value.ref b] below meth c H locs 162 5451 (lw_Z below #[Value.ref b] s) (F0 m 624 ls [])) : W p l e room_1 s m #[Value.ref b] below meth c H locs 162 5451 (lw_Z below #[Value.ref b] s) (F0 m 545 ls []) := by
  obtain ⟨hx, hb, hr, hml, hown, hts0, hX, hbl, hlocks, hgv⟩ := C0
  have hts : ∀ w ∈ wsL_law, w.before #[Value.ref b] s = true := fun w h => hts0 w (lin_all w h)
  have hbA : ¬ (fun q : Nat => s.heap.size ≤ q) b := Nat.not_le.mpr hbl
  have F : CallFix p m c cL_law 4 s #[Value.ref b] wsL_law RL := ⟨hx, hb, hml, hown, hts⟩
  obtain ⟨r, M1, M2, h1, h2, hI⟩ := S.2.2.2.2.2.2.2.2.2.2.2.2.2.2.2.2.2.1 k M (xs (5 * k + 1)) (xs (5 * k + 2)) hk hI
  refine lv_aload_n hx hb dL_law_545 rfl (lv_at hl 1 rfl) ?_
  refine lv_aload_n hx hb dL_law_546 rfl (lv_at hl 0 rfl) ?_
  refine lv_iload_n hx hb dL_law_547 rfl (lv_at hl 3 rfl) ?_
  refine lv_iconst (v := 1) hx hb dL_law_548 (by decide) ?_
  refine lv_iadd hx hb dL_law_549 ?_
  refine va_sld hx hb hX hbl hbA hS (law_ix (j := 1) (by omega) hL).1 dL_law_550 ?_
  rw [show (nI (5 * k) + (1 : Int32)).toNatClampNeg = 5 * k + 1 from (law_ix (j := 1) (by omega) hL).2]
  refine lv_aload_n hx hb dL_law_551 rfl (lv_at hl 0 rfl) ?_
  refine lv_iload_n hx hb dL_law_552 rfl (lv_at hl 3 rfl) ?_
  refine lv_iconst (v := 2) hx hb dL_law_553 (by decide) ?_
  refine lv_iadd hx hb dL_law_554 ?_
  refine va_sld hx hb hX hbl hbA hS (law_ix (j := 2) (by omega) hL).1 dL_law_555 ?_
  rw [show (nI (5 * k) + (2 : Int32)).toNatClampNeg = 5 * k + 2 from (law_ix (j := 2) (by omega) hL).2]
  refine lw_callVi (rest := []) F hK haB hP hS K4_0.1 rfl (c_X4_inOrder l dC dI cy a ha 0 K4_0 M (xs (5 * k + 1)) (xs (5 * k + 2)) h1) (cwV 2 hts (gV wd_ml_L_78 wd_im_X4_inOrder wd_se_X4_X4_inOrder wd_ini_X4 wd_co_X4_inOrder) rfl rfl rfl hd_X4_inOrder ⟨(Nat.le_of_ble_eq_true rfl), (Nat.le_of_ble_eq_true rfl)⟩) rfl hl.1 rfl (Nat.le_of_ble_eq_true rfl) dL_law_556 ⟨(Nat.le_of_ble_eq_true rfl), (Nat.le_of_ble_eq_true rfl)⟩ (fun H locs hP hS => ?_)
  refine lv_aload_n hx hb dL_law_559 rfl (lv_at hl 2 rfl) ?_
  refine lv_aload_n hx hb dL_law_560 rfl (lv_at hl 0 rfl) ?_
  refine lv_iload_n hx hb dL_law_561 rfl (lv_at hl 3 rfl) ?_
  refine lv_iconst (v := 1) hx hb dL_law_562 (by decide) ?_
  refine lv_iadd hx hb dL_law_563 ?_
  refine va_sld hx hb hX hbl hbA hS (law_ix (j := 1) (by omega) hL).1 dL_law_564 ?_
  rw [show (nI (5 * k) + (1 : Int32)).toNatClampNeg = 5 * k + 1 from (law_ix (j := 1) (by omega) hL).2]
  refine lv_aload_n hx hb dL_law_565 rfl (lv_at hl 0 rfl) ?_
  refine lv_iload_n hx hb dL_law_566 rfl (lv_at hl 3 rfl) ?_
  refine lv_iconst (v := 2) hx hb dL_law_567 (by decide) ?_
  refine lv_iadd hx hb dL_law_568 ?_
  refine va_sld hx hb hX hbl hbA hS (law_ix (j := 2) (by omega) hL).1 dL_law_569 ?_
  rw [show (nI (5 * k) + (2 : Int32)).toNatClampNeg = 5 * k + 2 from (law_ix (j := 2) (by omega) hL).2]
  refine lw_callVi (rest := [.int r]) F hK haB hP hS K5_157.1 rfl (c_X5_inOrder l dC dI cy a ha 157 K5_157 M1 (xs (5 * k + 1)) (xs (5 * k + 2)) h2) (cwV 2 hts (gV wd_ml_L_81 wd_im_X5_inOrder wd_se_X5_X5_inOrder wd_ini_X5 wd_co_X5_inOrder) rfl rfl rfl hd_X5_inOrder ⟨(Nat.le_of_ble_eq_true rfl), (Nat.le_of_ble_eq_true rfl)⟩) rfl hl.1 rfl (Nat.le_of_ble_eq_true rfl) dL_law_570 ⟨(Nat.le_of_ble_eq_true rfl), (Nat.le_of_ble_eq_true rfl)⟩ (fun H locs hP hS => ?_)
  refine lv_icmp_eq (tgt := 624) hx hb dL_law_573 (by decide) (fun _ => ?_) (fun h => absurd rfl h)
  exact ih _ _ _ _ hI hP hS hl
set_option maxHeartbeats 4000000 in
set_option maxRecDepth 100000 in
theorem law_keep {p : Program} {l : Launch} {e : Env} {s : State} {m : MethodId} {below : List Frame} {meth : Method} {c : Code} {dC : Nat → ClassId} {dI : Nat → Nat → Nat} {cy : Nat → ClassId} {a : Nat → Nat} {b L : Nat} {xs : Nat → Int32} (hL : L ≤ 2560) (C0 : lw_At p s m meth c b L xs) (hK : va_K (dC, dI) vwCl (tysU cy) s) (ha : injU a) (haB : ∀ i, i < 162 → s.heap.size ≤ a i) {Inv : Nat → Mem → Prop} (S : ST_all Inv) {k : Nat} (hk : k < 512) (hkL : 5 * k + 5 ≤ L) {M : Mem} {H : Heap} {locs : List Loc} {ls : Array Slot} (hI : Inv k M) (hP : va_P (dC, dI) vwCl (wsM a cy M) H) (hS : va_S (fun q => s.heap.size ≤ q) s.heap H locs) (hl : lv_has ls 4 [(0, .ref b), (1, .ref (a 0)), (2, .ref (a 157)), (3, .int (nI (5 * k)))]) (ih : ∀ (M : Mem) (H : Heap) (locs : List Loc) (ls : Array Slot), Inv (k + 1) M → va_P (dC, dI) vwCl (wsM a cy M) H → va_S (fun q => s.heap.size ≤ q) s.heap H locs → lv_has ls 4 [(0, .ref b), (1, .ref (a 0)), (2, .ref (a 157)), (3, .int (nI (5 * k)))] → W p l e room_1 s m #[Value.ref b] below meth c H locs 162 5451 (lw_Z below #[Value.ref b] s) (F0 m 624 ls [])) : W p l e room_1 s m #[Value.ref b] below meth c H locs 162 5451 (lw_Z below #[Value.ref b] s) (F0 m 578 ls []) := by
  obtain ⟨hx, hb, hr, hml, hown, hts0, hX, hbl, hlocks, hgv⟩ := C0
  have hts : ∀ w ∈ wsL_law, w.before #[Value.ref b] s = true := fun w h => hts0 w (lin_all w h)
  have hbA : ¬ (fun q : Nat => s.heap.size ≤ q) b := Nat.not_le.mpr hbl
  have F : CallFix p m c cL_law 4 s #[Value.ref b] wsL_law RL := ⟨hx, hb, hml, hown, hts⟩
  obtain ⟨r, M1, M2, h1, h2, hI⟩ := S.2.2.2.2.2.2.2.2.2.2.2.2.2.2.2.2.2.2.1 k M (xs (5 * k + 1)) hk hI
  refine lv_aload_n hx hb dL_law_578 rfl (lv_at hl 1 rfl) ?_
  refine lv_aload_n hx hb dL_law_579 rfl (lv_at hl 0 rfl) ?_
  refine lv_iload_n hx hb dL_law_580 rfl (lv_at hl 3 rfl) ?_
  refine lv_iconst (v := 1) hx hb dL_law_581 (by decide) ?_
  refine lv_iadd hx hb dL_law_582 ?_
  refine va_sld hx hb hX hbl hbA hS (law_ix (j := 1) (by omega) hL).1 dL_law_583 ?_
  rw [show (nI (5 * k) + (1 : Int32)).toNatClampNeg = 5 * k + 1 from (law_ix (j := 1) (by omega) hL).2]
  refine lw_callVi (rest := []) F hK haB hP hS K4_0.1 rfl (c_X4_keep l dC dI cy a ha 0 K4_0 M (xs (5 * k + 1)) h1) (cwV 1 hts (gV wd_ml_L_82 wd_im_X4_keep wd_se_X4_X4_keep wd_ini_X4 wd_co_X4_keep) rfl rfl rfl hd_X4_keep ⟨(Nat.le_of_ble_eq_true rfl), (Nat.le_of_ble_eq_true rfl)⟩) rfl hl.1 rfl (Nat.le_of_ble_eq_true rfl) dL_law_584 ⟨(Nat.le_of_ble_eq_true rfl), (Nat.le_of_ble_eq_true rfl)⟩ (fun H locs hP hS => ?_)
  refine lv_aload_n hx hb dL_law_587 rfl (lv_at hl 2 rfl) ?_
  refine lv_aload_n hx hb dL_law_588 rfl (lv_at hl 0 rfl) ?_
  refine lv_iload_n hx hb dL_law_589 rfl (lv_at hl 3 rfl) ?_
  refine lv_iconst (v := 1) hx hb dL_law_590 (by decide) ?_
  refine lv_iadd hx hb dL_law_591 ?_
  refine va_sld hx hb hX hbl hbA hS (law_ix (j := 1) (by omega) hL).1 dL_law_592 ?_
  rw [show (nI (5 * k) + (1 : Int32)).toNatClampNeg = 5 * k + 1 from (law_ix (j := 1) (by omega) hL).2]
  refine lw_callVi (rest := [.int r]) F hK haB hP hS K5_157.1 rfl (c_X5_keep l dC dI cy a ha 157 K5_157 M1 (xs (5 * k + 1)) h2) (cwV 1 hts (gV wd_ml_L_85 wd_im_X5_keep wd_se_X5_X5_keep wd_ini_X5 wd_co_X5_keep) rfl rfl rfl hd_X5_keep ⟨(Nat.le_of_ble_eq_true rfl), (Nat.le_of_ble_eq_true rfl)⟩) rfl hl.1 rfl (Nat.le_of_ble_eq_true rfl) dL_law_593 ⟨(Nat.le_of_ble_eq_true rfl), (Nat.le_of_ble_eq_true rfl)⟩ (fun H locs hP hS => ?_)
  refine lv_icmp_eq (tgt := 624) hx hb dL_law_596 (by decide) (fun _ => ?_) (fun h => absurd rfl h)
  exact ih _ _ _ _ hI hP hS hl
set_option maxHeartbeats 4000000 in
set_option maxRecDepth 100000 in
theorem law_goBack {p : Program} {l : Launch} {e : Env} {s : State} {m : MethodId} {below : List Frame} {meth : Method} {c : Code} {dC : Nat → ClassId} {dI : Nat → Nat → Nat} {cy : Nat → ClassId} {a : Nat → Nat} {b L : Nat} {xs : Nat → Int32} (hL : L ≤ 2560) (C0 : lw_At p s m meth c b L xs) (hK : va_K (dC, dI) vwCl (tysU cy) s) (ha : injU a) (haB : ∀ i, i < 162 → s.heap.size ≤ a i) {Inv : Nat → Mem → Prop} (S : ST_all Inv) {k : Nat} (hk : k < 512) (hkL : 5 * k + 5 ≤ L) {M : Mem} {H : Heap} {locs : List Loc} {ls : Array Slot} (hI : Inv k M) (hP : va_P (dC, dI) vwCl (wsM a cy M) H) (hS : va_S (fun q => s.heap.size ≤ q) s.heap H locs) (hl : lv_has ls 4 [(0, .ref b), (1, .ref (a 0)), (2, .ref (a 157)), (3, .int (nI (5 * k)))]) (ih : ∀ (M : Mem) (H : Heap) (locs : List Loc) (ls : Array Slot), Inv (k + 1) M → va_P (dC, dI) vwCl (wsM a cy M) H → va_S (fun q => s.heap.size ≤ q) s.heap H locs → lv_has ls 4 [(0, .ref b), (1, .ref (a 0)), (2, .ref (a 157)), (3, .int (nI (5 * k)))] → W p l e room_1 s m #[Value.ref b] below meth c H locs 162 5451 (lw_Z below #[Value.ref b] s) (F0 m 624 ls [])) : W p l e room_1 s m #[Value.ref b] below meth c H locs 162 5451 (lw_Z below #[Value.ref b] s) (F0 m 601 ls []) := by
  obtain ⟨hx, hb, hr, hml, hown, hts0, hX, hbl, hlocks, hgv⟩ := C0
  have hts : ∀ w ∈ wsL_law, w.before #[Value.ref b] s = true := fun w h => hts0 w (lin_all w h)
  have hbA : ¬ (fun q : Nat => s.heap.size ≤ q) b := Nat.not_le.mpr hbl
  have F : CallFix p m c cL_law 4 s #[Value.ref b] wsL_law RL := ⟨hx, hb, hml, hown, hts⟩
  obtain ⟨r, M1, M2, h1, h2, hI⟩ := S.2.2.2.2.2.2.2.2.2.2.2.2.2.2.2.2.2.2.2 k M (xs (5 * k + 1)) hk hI
  refine lv_aload_n hx hb dL_law_601 rfl (lv_at hl 1 rfl) ?_
  refine lv_aload_n hx hb dL_law_602 rfl (lv_at hl 0 rfl) ?_
  refine lv_iload_n hx hb dL_law_603 rfl (lv_at hl 3 rfl) ?_
  refine lv_iconst (v := 1) hx hb dL_law_604 (by decide) ?_
  refine lv_iadd hx hb dL_law_605 ?_
  refine va_sld hx hb hX hbl hbA hS (law_ix (j := 1) (by omega) hL).1 dL_law_606 ?_
  rw [show (nI (5 * k) + (1 : Int32)).toNatClampNeg = 5 * k + 1 from (law_ix (j := 1) (by omega) hL).2]
  refine lw_callVi (rest := []) F hK haB hP hS K4_0.1 rfl (c_X4_goBack l dC dI cy a ha 0 K4_0 M (xs (5 * k + 1)) h1) (cwV 1 hts (gV wd_ml_L_86 wd_im_X4_goBack wd_se_X4_X4_goBack wd_ini_X4 wd_co_X4_goBack) rfl rfl rfl hd_X4_goBack ⟨(Nat.le_of_ble_eq_true rfl), (Nat.le_of_ble_eq_true rfl)⟩) rfl hl.1 rfl (Nat.le_of_ble_eq_true rfl) dL_law_607 ⟨(Nat.le_of_ble_eq_true rfl), (Nat.le_of_ble_eq_true rfl)⟩ (fun H locs hP hS => ?_)
  refine lv_aload_n hx hb dL_law_610 rfl (lv_at hl 2 rfl) ?_
  refine lv_aload_n hx hb dL_law_611 rfl (lv_at hl 0 rfl) ?_
  refine lv_iload_n hx hb dL_law_612 rfl (lv_at hl 3 rfl) ?_
  refine lv_iconst (v := 1) hx hb dL_law_613 (by decide) ?_
  refine lv_iadd hx hb dL_law_614 ?_
  refine va_sld hx hb hX hbl hbA hS (law_ix (j := 1) (by omega) hL).1 dL_law_615 ?_
  rw [show (nI (5 * k) + (1 : Int32)).toNatClampNeg = 5 * k + 1 from (law_ix (j := 1) (by omega) hL).2]
  refine lw_callVi (rest := [.int r]) F hK haB hP hS K5_157.1 rfl (c_X5_goBack l dC dI cy a ha 157 K5_157 M1 (xs (5 * k + 1)) h2) (cwV 1 hts (gV wd_ml_L_89 wd_im_X5_goBack wd_se_X5_X5_goBack wd_ini_X5 wd_co_X5_goBack) rfl rfl rfl hd_X5_goBack ⟨(Nat.le_of_ble_eq_true rfl), (Nat.le_of_ble_eq_true rfl)⟩) rfl hl.1 rfl (Nat.le_of_ble_eq_true rfl) dL_law_616 ⟨(Nat.le_of_ble_eq_true rfl), (Nat.le_of_ble_eq_true rfl)⟩ (fun H locs hP hS => ?_)
  refine lv_icmp_eq (tgt := 624) hx hb dL_law_619 (by decide) (fun _ => ?_) (fun h => absurd rfl h)
  exact ih _ _ _ _ hI hP hS hl
set_option maxHeartbeats 4000000 in
set_option maxRecDepth 100000 in
theorem law_loop {p : Program} {l : Launch} {e : Env} {s : State} {m : MethodId} {below : List Frame} {meth : Method} {c : Code} {dC : Nat → ClassId} {dI : Nat → Nat → Nat} {cy : Nat → ClassId} {a : Nat → Nat} {b L : Nat} {xs : Nat → Int32} (hL : L ≤ 2560) (C0 : lw_At p s m meth c b L xs) (hK : va_K (dC, dI) vwCl (tysU cy) s) (ha : injU a) (haB : ∀ i, i < 162 → s.heap.size ≤ a i) {Inv : Nat → Mem → Prop} (S : ST_all Inv) : ∀ (n k : Nat) (M : Mem) (H : Heap) (locs : List Loc) (ls : Array Slot), L + 1 ≤ 5 * k + n → 5 * k ≤ L + 5 → Inv k M → va_P (dC, dI) vwCl (wsM a cy M) H → va_S (fun q => s.heap.size ≤ q) s.heap H locs → lv_has ls 4 [(0, .ref b), (1, .ref (a 0)), (2, .ref (a 157)), (3, .int (nI (5 * k)))] → W p l e room_1 s m #[Value.ref b] below meth c H locs 162 5451 (lw_Z below #[Value.ref b] s) (F0 m 18 ls []) := by
  have C1 := C0
  obtain ⟨hx, hb, hr, hml, hown, hts0, hX, hbl, hlocks, hgv⟩ := C0
  have hts : ∀ w ∈ wsL_law, w.before #[Value.ref b] s = true := fun w h => hts0 w (lin_all w h)
  have hbA : ¬ (fun q : Nat => s.heap.size ≤ q) b := Nat.not_le.mpr hbl
  have F : CallFix p m c cL_law 4 s #[Value.ref b] wsL_law RL := ⟨hx, hb, hml, hown, hts⟩
  have hexit : ∀ (H : Heap) (locs : List Loc) (ls : Array Slot), va_S (fun q => s.heap.size ≤ q) s.heap H locs → W p l e room_1 s m #[Value.ref b] below meth c H locs 162 5451 (lw_Z below #[Value.ref b] s) (F0 m 630 ls []) := by
    intro H locs ls hS
    refine lv_iconst (v := 1) hx hb dL_law_630 (by decide) ?_
    refine va_forget (fun q hq => hS.2.2 q hq) ?_
    refine W.widen (k := 600000) (n := 7302249) (Nat.le_of_ble_eq_true rfl) (Nat.le_of_ble_eq_true rfl) ?_
    exact lw_ret hx hb hr hlocks dL_law_631
  intro n
  induction n with
  | zero =>
    intro k M H locs ls h1 h2 hI hP hS hl
    refine lv_iload_n hx hb dL_law_18 rfl (lv_at hl 3 rfl) ?_
    refine lv_aload_n hx hb dL_law_19 rfl (lv_at hl 0 rfl) ?_
    refine va_slen hx hb hX hbl hbA hS dL_law_20 ?_
    refine lv_iconst (v := 5) hx hb dL_law_21 (by decide) ?_
    refine lv_isub hx hb dL_law_22 ?_
    refine lv_icmp_gt (tgt := 630) hx hb dL_law_23 (by decide) (fun _ => hexit _ _ _ hS) (fun c1 => absurd ?_ c1)
    rw [Int32.lt_iff_toInt_lt, show (Int32.ofNat L - 5).toInt = (L : Int) - 5 from pk_sub_toInt (a := L) (b := 5) (by omega) (by decide), nI_toInt (by omega)]
    omega
  | succ n ih =>
    intro k M H locs ls h1 h2 hI hP hS hl
    refine lv_iload_n hx hb dL_law_18 rfl (lv_at hl 3 rfl) ?_
    refine lv_aload_n hx hb dL_law_19 rfl (lv_at hl 0 rfl) ?_
    refine va_slen hx hb hX hbl hbA hS dL_law_20 ?_
    refine lv_iconst (v := 5) hx hb dL_law_21 (by decide) ?_
    refine lv_isub hx hb dL_law_22 ?_
    refine lv_icmp_gt (tgt := 630) hx hb dL_law_23 (by decide) (fun _ => hexit _ _ _ hS) (fun c1 => ?_)
    have hkL : 5 * k + 5 ≤ L := by
      rw [Int32.lt_iff_toInt_lt, show (Int32.ofNat L - 5).toInt = (L : Int) - 5 from pk_sub_toInt (a := L) (b := 5) (by omega) (by decide), nI_toInt (by omega)] at c1
      omega
    have hk : k < 512 := by omega
    refine lv_aload_n hx hb dL_law_26 rfl (lv_at hl 0 rfl) ?_
    refine lv_iload_n hx hb dL_law_27 rfl (lv_at hl 3 rfl) ?_
    refine va_sld hx hb hX hbl hbA hS (vp_in_nI (by omega) (by omega)) dL_law_28 ?_
    refine lv_bipush (v := 31) hx hb dL_law_29 (by decide) ?_
    refine lv_iand hx hb dL_law_31 ?_
    refine lv_topi (fun x ex => ?_)
    have hend : ∀ (M : Mem) (H : Heap) (locs : List Loc) (ls : Array Slot), Inv (k + 1) M → va_P (dC, dI) vwCl (wsM a cy M) H → va_S (fun q => s.heap.size ≤ q) s.heap H locs → lv_has ls 4 [(0, .ref b), (1, .ref (a 0)), (2, .ref (a 157)), (3, .int (nI (5 * k)))] → W p l e room_1 s m #[Value.ref b] below meth c H locs 162 5451 (lw_Z below #[Value.ref b] s) (F0 m 624 ls []) := by
      intro M H locs ls hI hP hS hl
      refine lv_iinc (v := nI (5 * (k + 1))) (lv' := [(3, .int (nI (5 * (k + 1)))), (0, .ref b), (1, .ref (a 0)), (2, .ref (a 157))]) hx hb dL_law_624 hl (k := 3) rfl (by rw [show 5 * (k + 1) = 5 * k + 5 by omega, ← nI_add]; rfl) (by decide) rfl (fun ls hl => ?_)
      refine lv_goto (tgt := 18) hx hb dL_law_627 (by decide) ?_
      exact ih (k + 1) M H locs ls (by omega) (by omega) hI hP hS (lv_sub hl [1, 2, 3, 0] rfl)
    by_cases c2 : x = (0 : Int32)
    · refine lv_tableIn (off := 88) (tgt := 120) hx hb dL_law_32 (by rw [c2]; decide) (by rw [c2]; decide) (by rw [c2]; rfl) (by decide) ?_
      exact law_parts hL C1 hK ha haB S hk hkL hI hP hS hl hend
    by_cases c3 : x = (1 : Int32)
    · refine lv_tableIn (off := 111) (tgt := 143) hx hb dL_law_32 (by rw [c3]; decide) (by rw [c3]; decide) (by rw [c3]; rfl) (by decide) ?_
      exact law_channel hL C1 hK ha haB S hk hkL hI hP hS hl hend
    by_cases c4 : x = (2 : Int32)
    · refine lv_tableIn (off := 164) (tgt := 196) hx hb dL_law_32 (by rw [c4]; decide) (by rw [c4]; decide) (by rw [c4]; rfl) (by decide) ?_
      exact law_event hL C1 hK ha haB S hk hkL hI hP hS hl hend
    by_cases c5 : x = (3 : Int32)
    · refine lv_tableIn (off := 207) (tgt := 239) hx hb dL_law_32 (by rw [c5]; decide) (by rw [c5]; decide) (by rw [c5]; rfl) (by decide) ?_
      exact law_form hL C1 hK ha haB S hk hkL hI hP hS hl hend
    by_cases c6 : x = (4 : Int32)
    · refine lv_tableIn (off := 230) (tgt := 262) hx hb dL_law_32 (by rw [c6]; decide) (by rw [c6]; decide) (by rw [c6]; rfl) (by decide) ?_
      exact law_drift hL C1 hK ha haB S hk hkL hI hP hS hl hend
    by_cases c7 : x = (5 : Int32)
    · refine lv_tableIn (off := 263) (tgt := 295) hx hb dL_law_32 (by rw [c7]; decide) (by rw [c7]; decide) (by rw [c7]; rfl) (by decide) ?_
      exact law_run hL C1 hK ha haB S hk hkL hI hP hS hl hend
    by_cases c8 : x = (6 : Int32)
    · refine lv_tableIn (off := 286) (tgt := 318) hx hb dL_law_32 (by rw [c8]; decide) (by rw [c8]; decide) (by rw [c8]; rfl) (by decide) ?_
      exact law_letGo hL C1 hK ha haB S hk hkL hI hP hS hl hend
    by_cases c9 : x = (7 : Int32)
    · refine lv_tableIn (off := 299) (tgt := 331) hx hb dL_law_32 (by rw [c9]; decide) (by rw [c9]; decide) (by rw [c9]; rfl) (by decide) ?_
      exact law_finish hL C1 hK ha haB S hk hkL hI hP hS hl hend
    by_cases c10 : x = (8 : Int32)
    · refine lv_tableIn (off := 312) (tgt := 344) hx hb dL_law_32 (by rw [c10]; decide) (by rw [c10]; decide) (by rw [c10]; rfl) (by decide) ?_
      exact law_told hL C1 hK ha haB S hk hkL hI hP hS hl hend
    by_cases c11 : x = (9 : Int32)
    · refine lv_tableIn (off := 335) (tgt := 367) hx hb dL_law_32 (by rw [c11]; decide) (by rw [c11]; decide) (by rw [c11]; rfl) (by decide) ?_
      exact law_part hL C1 hK ha haB S hk hkL hI hP hS hl hend
    by_cases c12 : x = (10 : Int32)
    · refine lv_tableIn (off := 368) (tgt := 400) hx hb dL_law_32 (by rw [c12]; decide) (by rw [c12]; decide) (by rw [c12]; rfl) (by decide) ?_
      exact law_channelOf hL C1 hK ha haB S hk hkL hI hP hS hl hend
    by_cases c13 : x = (11 : Int32)
    · refine lv_tableIn (off := 401) (tgt := 433) hx hb dL_law_32 (by rw [c13]; decide) (by rw [c13]; decide) (by rw [c13]; rfl) (by decide) ?_
      exact law_between hL C1 hK ha haB S hk hkL hI hP hS hl hend
    by_cases c14 : x = (12 : Int32)
    · refine lv_tableIn (off := 434) (tgt := 466) hx hb dL_law_32 (by rw [c14]; decide) (by rw [c14]; decide) (by rw [c14]; rfl) (by decide) ?_
      exact law_record hL C1 hK ha haB S hk hkL hI hP hS hl hend
    by_cases c15 : x = (13 : Int32)
    · refine lv_tableIn (off := 467) (tgt := 499) hx hb dL_law_32 (by rw [c15]; decide) (by rw [c15]; decide) (by rw [c15]; rfl) (by decide) ?_
      exact law_ring hL C1 hK ha haB S hk hkL hI hP hS hl hend
    by_cases c16 : x = (14 : Int32)
    · refine lv_tableIn (off := 490) (tgt := 522) hx hb dL_law_32 (by rw [c16]; decide) (by rw [c16]; decide) (by rw [c16]; rfl) (by decide) ?_
      exact law_waits hL C1 hK ha haB S hk hkL hI hP hS hl hend
    by_cases c17 : x = (15 : Int32)
    · refine lv_tableIn (off := 513) (tgt := 545) hx hb dL_law_32 (by rw [c17]; decide) (by rw [c17]; decide) (by rw [c17]; rfl) (by decide) ?_
      exact law_inOrder hL C1 hK ha haB S hk hkL hI hP hS hl hend
    by_cases c18 : x = (16 : Int32)
    · refine lv_tableIn (off := 546) (tgt := 578) hx hb dL_law_32 (by rw [c18]; decide) (by rw [c18]; decide) (by rw [c18]; rfl) (by decide) ?_
      exact law_keep hL C1 hK ha haB S hk hkL hI hP hS hl hend
    by_cases c19 : x = (17 : Int32)
    · refine lv_tableIn (off := 569) (tgt := 601) hx hb dL_law_32 (by rw [c19]; decide) (by rw [c19]; decide) (by rw [c19]; rfl) (by decide) ?_
      exact law_goBack hL C1 hK ha haB S hk hkL hI hP hS hl hend
    refine lv_tableOut (tgt := 624) hx hb dL_law_32 (by have q0 : x.toInt ≠ 0 := fun e => c2 (Int32.toInt_inj.mp (e.trans (by decide))); have q1 : x.toInt ≠ 1 := fun e => c3 (Int32.toInt_inj.mp (e.trans (by decide))); have q2 : x.toInt ≠ 2 := fun e => c4 (Int32.toInt_inj.mp (e.trans (by decide))); have q3 : x.toInt ≠ 3 := fun e => c5 (Int32.toInt_inj.mp (e.trans (by decide))); have q4 : x.toInt ≠ 4 := fun e => c6 (Int32.toInt_inj.mp (e.trans (by decide))); have q5 : x.toInt ≠ 5 := fun e => c7 (Int32.toInt_inj.mp (e.trans (by decide))); have q6 : x.toInt ≠ 6 := fun e => c8 (Int32.toInt_inj.mp (e.trans (by decide))); have q7 : x.toInt ≠ 7 := fun e => c9 (Int32.toInt_inj.mp (e.trans (by decide))); have q8 : x.toInt ≠ 8 := fun e => c10 (Int32.toInt_inj.mp (e.trans (by decide))); have q9 : x.toInt ≠ 9 := fun e => c11 (Int32.toInt_inj.mp (e.trans (by decide))); have q10 : x.toInt ≠ 10 := fun e => c12 (Int32.toInt_inj.mp (e.trans (by decide))); have q11 : x.toInt ≠ 11 := fun e => c13 (Int32.toInt_inj.mp (e.trans (by decide))); have q12 : x.toInt ≠ 12 := fun e => c14 (Int32.toInt_inj.mp (e.trans (by decide))); have q13 : x.toInt ≠ 13 := fun e => c15 (Int32.toInt_inj.mp (e.trans (by decide))); have q14 : x.toInt ≠ 14 := fun e => c16 (Int32.toInt_inj.mp (e.trans (by decide))); have q15 : x.toInt ≠ 15 := fun e => c17 (Int32.toInt_inj.mp (e.trans (by decide))); have q16 : x.toInt ≠ 16 := fun e => c18 (Int32.toInt_inj.mp (e.trans (by decide))); have q17 : x.toInt ≠ 17 := fun e => c19 (Int32.toInt_inj.mp (e.trans (by decide))); omega) (by decide) ?_
    exact hend M H locs ls (S.2.1 k M hI) hP hS hl
