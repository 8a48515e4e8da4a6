/-! X5_canRun -/
set_option maxHeartbeats 4000000 in
set_option maxRecDepth 100000 in
theorem w_X5_canRun_L31 {l : Launch} {dC : Nat → ClassId} {dI : Nat → Nat → Nat} {cy : Nat → ClassId} {a : Nat → Nat} {p : Program} {e : Env} {s : State} {m : MethodId} {args : Array Value} {below : List Frame} {meth : Method} {c : Code} (X : XU dC dI cy a p s m c args meth cX5_canRun 1 RX5 (some .boolean)) {M : Mem} {this : Nat} (hT : K5 this) {s0 : Int32} {o : (Int32 × Mem)} {H : Heap} {locs : List Loc} {ls : Array Slot} (hf : f_X5_canRun_L31 M this s0 = some o) (hG : GU dC dI cy a s.heap M H locs) (hl : lv_has ls 1 [(0, .ref (a this))]) : W p l e ({ frames := 3, cells := 0, slots := 0, locals := 68 } : Room) s m args below meth c H locs 0 0 (MQ below (QUi dC dI cy a o.1 o.2) args s 0 0 (AU a)) (F0 m 31 ls [.int s0]) := by
  have hx := X.1.1
  have hb := X.1.2.1
  have hown := X.1.2.2.2.1
  have hts := X.1.2.2.2.2
  rw [f_X5_canRun_L31] at hf
  obtain ⟨hz1, hf⟩ := zk_some hf
  obtain rfl := Option.some.inj hf
  exact mw_zret X hG (zk_nar hz1) dX5_canRun_31
set_option maxHeartbeats 4000000 in
set_option maxRecDepth 100000 in
theorem w_X5_canRun_L26 {l : Launch} {dC : Nat → ClassId} {dI : Nat → Nat → Nat} {cy : Nat → ClassId} {a : Nat → Nat} {p : Program} {e : Env} {s : State} {m : MethodId} {args : Array Value} {below : List Frame} {meth : Method} {c : Code} (X : XU dC dI cy a p s m c args meth cX5_canRun 1 RX5 (some .boolean)) {M : Mem} {this : Nat} (hT : K5 this) {o : (Int32 × Mem)} {H : Heap} {locs : List Loc} {ls : Array Slot} (hf : f_X5_canRun_L26 M this = some o) (hG : GU dC dI cy a s.heap M H locs) (hl : lv_has ls 1 [(0, .ref (a this))]) : W p l e ({ frames := 3, cells := 0, slots := 0, locals := 68 } : Room) s m args below meth c H locs 0 0 (MQ below (QUi dC dI cy a o.1 o.2) args s 0 0 (AU a)) (F0 m 26 ls []) := by
  have hx := X.1.1
  have hb := X.1.2.1
  have hown := X.1.2.2.2.1
  have hts := X.1.2.2.2.2
  rw [f_X5_canRun_L26] at hf
  refine lv_iconst (v := 1) hx hb dX5_canRun_26 (by decide) ?_
  refine lv_goto (tgt := 31) hx hb dX5_canRun_27 (by decide) ?_
  exact w_X5_canRun_L31 X hT hf hG (lv_sub hl [0] rfl)
set_option maxHeartbeats 4000000 in
set_option maxRecDepth 100000 in
theorem w_X5_canRun_L30 {l : Launch} {dC : Nat → ClassId} {dI : Nat → Nat → Nat} {cy : Nat → ClassId} {a : Nat → Nat} {p : Program} {e : Env} {s : State} {m : MethodId} {args : Array Value} {below : List Frame} {meth : Method} {c : Code} (X : XU dC dI cy a p s m c args meth cX5_canRun 1 RX5 (some .boolean)) {M : Mem} {this : Nat} (hT : K5 this) {o : (Int32 × Mem)} {H : Heap} {locs : List Loc} {ls : Array Slot} (hf : f_X5_canRun_L30 M this = some o) (hG : GU dC dI cy a s.heap M H locs) (hl : lv_has ls 1 [(0, .ref (a this))]) : W p l e ({ frames := 3, cells := 0, slots := 0, locals := 68 } : Room) s m args below meth c H locs 0 0 (MQ below (QUi dC dI cy a o.1 o.2) args s 0 0 (AU a)) (F0 m 30 ls []) := by
  have hx := X.1.1
  have hb := X.1.2.1
  have hown := X.1.2.2.2.1
  have hts := X.1.2.2.2.2
  rw [f_X5_canRun_L30] at hf
  refine lv_iconst (v := 0) hx hb dX5_canRun_30 (by decide) ?_
  exact w_X5_canRun_L31 X hT hf hG (lv_sub hl [0] rfl)
set_option maxHeartbeats 4000000 in
set_option maxRecDepth 100000 in
theorem c_X5_canRun (l : Launch) (dC : Nat → ClassId) (dI : Nat → Nat → Nat) (cy : Nat → ClassId) (a : Nat → Nat) (ha : injU a) (this : Nat) (hT : K5 this) (M : Mem) {o : (Int32 × Mem)} (hf : f_X5_canRun M this = some o) : Met l yX5_canRun (wsU yX5_canRun cX5_canRun 1 (some .boolean)) ({ frames := 3, cells := 0, slots := 0, locals := 68 } : Room) (PU dC dI cy a [.ref (a this)] M) (QUi dC dI cy a o.1 o.2) 0 0 (AU a) := by
  refine mw_met (by decide) ha (Nat.le_of_ble_eq_true rfl) ?_
  intro p e s m below meth c ls X hG hl
  have hl : lv_has ls 1 [(0, .ref (a this))] := hl
  have X : XU dC dI cy a p s m c [.ref (a this)].toArray meth cX5_canRun 1 RX5 (some .boolean) := X
  have hx := X.1.1
  have hb := X.1.2.1
  have hown := X.1.2.2.2.1
  have hts := X.1.2.2.2.2
  rw [f_X5_canRun] at hf
  refine lv_aload_n hx hb dX5_canRun_0 rfl (lv_at hl 0 rfl) ?_
  refine gf_X5_7 X hG hT dX5_canRun_1 ?_
  refine lv_iconst (v := 0) hx hb dX5_canRun_4 (by decide) ?_
  obtain ⟨hi1, hf⟩ := ck_some hf
  refine mw_iald X hG hT.2.1 hi1 dX5_canRun_5 ?_
  refine lv_if_le (tgt := 30) hx hb dX5_canRun_6 (by decide) (fun c2 => ?_) (fun c2 => ?_)
  · have hf := itep c2 hf
    exact w_X5_canRun_L30 X hT hf hG (lv_sub hl [0] rfl)
  · have hf := iten c2 hf
    refine lv_aload_n hx hb dX5_canRun_9 rfl (lv_at hl 0 rfl) ?_
    refine gf_X5_7 X hG hT dX5_canRun_10 ?_
    refine lv_iconst (v := 2) hx hb dX5_canRun_13 (by decide) ?_
    obtain ⟨hi3, hf⟩ := ck_some hf
    refine mw_iald X hG hT.2.1 hi3 dX5_canRun_14 ?_
    refine lv_iconst (v := 1) hx hb dX5_canRun_15 (by decide) ?_
    refine lv_icmp_eq (tgt := 26) hx hb dX5_canRun_16 (by decide) (fun c4 => ?_) (fun c4 => ?_)
    · have hf := itep c4 hf
      exact w_X5_canRun_L26 X hT hf hG (lv_sub hl [0] rfl)
    · have hf := iten c4 hf
      refine lv_aload_n hx hb dX5_canRun_19 rfl (lv_at hl 0 rfl) ?_
      obtain ⟨x6, M5, hr7, hf⟩ := bd2_some hf
      refine mw_callVi (rest := []) X hG hT.1 rfl (c_X5_isRing l dC dI cy a X.2.2.1 this hT M  hr7) (mw_cwV X 0 g_X5_125 hd_X5_isRing ⟨rfl, rfl⟩ ⟨Nat.le_of_ble_eq_true rfl, Nat.le_of_ble_eq_true rfl⟩) rfl hl.1 rfl (Nat.le_of_ble_eq_true rfl) dX5_canRun_20 (fun H locs hG => ?_)
      refine lv_if_ne (tgt := 30) hx hb dX5_canRun_23 (by decide) (fun c8 => ?_) (fun c8 => ?_)
      · have hf := iten c8 hf
        exact w_X5_canRun_L30 X hT hf hG (lv_sub hl [0] rfl)
      · have hf := itep c8 hf
        exact w_X5_canRun_L26 X hT hf hG (lv_sub hl [0] rfl)
/-! X5_run -/
set_option maxHeartbeats 4000000 in
set_option maxRecDepth 100000 in
theorem w_X5_run_L68 {l : Launch} {dC : Nat → ClassId} {dI : Nat → Nat → Nat} {cy : Nat → ClassId} {a : Nat → Nat} {p : Program} {e : Env} {s : State} {m : MethodId} {args : Array Value} {below : List Frame} {meth : Method} {c : Code} (X : XU dC dI cy a p s m c args meth cX5_run 5 RX5 (some .int)) {M : Mem} {this : Nat} (hT : K5 this) {v2 : Int32} {o : (Int32 × Mem)} {H : Heap} {locs : List Loc} {ls : Array Slot} (hf : f_X5_run_L68 M this v2 = some o) (hG : GU dC dI cy a s.heap M H locs) (hl : lv_has ls 5 [(0, .ref (a this)), (2, .int v2)]) : W p l e ({ frames := 6, cells := 0, slots := 0, locals := 143 } : Room) s m args below meth c H locs 0 0 (MQ below (QUi dC dI cy a o.1 o.2) args s 0 0 (AU a)) (F0 m 68 ls []) := by
  have hx := X.1.1
  have hb := X.1.2.1
  have hown := X.1.2.2.2.1
  have hts := X.1.2.2.2.2
  rw [f_X5_run_L68] at hf
  refine lv_aload_n hx hb dX5_run_68 rfl (lv_at hl 0 rfl) ?_
  refine gf_X5_7 X hG hT dX5_run_69 ?_
  refine lv_iconst (v := 3) hx hb dX5_run_72 (by decide) ?_
  obtain ⟨hi1, hf⟩ := ck_some hf
  refine mw_iald X hG hT.2.1 hi1 dX5_run_73 ?_
  refine lv_iload_n hx hb dX5_run_74 rfl (lv_at hl 1 rfl) ?_
  refine lv_isub hx hb dX5_run_75 ?_
  obtain rfl := Option.some.inj hf
  exact mw_iret X hG dX5_run_76
set_option maxHeartbeats 4000000 in
set_option maxRecDepth 100000 in
theorem w_X5_run_L37 {l : Launch} {dC : Nat → ClassId} {dI : Nat → Nat → Nat} {cy : Nat → ClassId} {a : Nat → Nat} {p : Program} {e : Env} {s : State} {m : MethodId} {args : Array Value} {below : List Frame} {meth : Method} {c : Code} (X : XU dC dI cy a p s m c args meth cX5_run 5 RX5 (some .int)) {this : Nat} (hT : K5 this) {v1 : Int32} {v2 : Int32} {o : (Int32 × Mem)} : ∀ (n : Nat) (M : Mem) (v3 : Int32) (v4 : Int32) (H : Heap) (locs : List Loc) (ls : Array Slot), f_X5_run_L37 this v1 v2 n M v3 v4 = some o → GU dC dI cy a s.heap M H locs → lv_has ls 5 [(0, .ref (a this)), (1, .int v1), (2, .int v2), (3, .int v3), (4, .int v4)] → W p l e ({ frames := 6, cells := 0, slots := 0, locals := 143 } : Room) s m args below meth c H locs 0 0 (MQ below (QUi dC dI cy a o.1 o.2) args s 0 0 (AU a)) (F0 m 37 ls []) := by
  have hx := X.1.1
  have hb := X.1.2.1
  have hown := X.1.2.2.2.1
  have hts := X.1.2.2.2.2
  intro n
  induction n with
  | zero => intro M v3 v4 H locs ls hf; cases hf
  | succ n ih =>
    intro M v3 v4 H locs ls hf hG hl
    rw [f_X5_run_L37] at hf
    refine lv_iload hx hb dX5_run_37 (lv_at hl 4 rfl) ?_
    refine lv_iload_n hx hb dX5_run_39 rfl (lv_at hl 1 rfl) ?_
    refine lv_icmp_ge (tgt := 68) hx hb dX5_run_40 (by decide) (fun c1 => ?_) (fun c1 => ?_)
    · have hf := itep c1 hf
      exact w_X5_run_L68 X hT hf hG (lv_sub hl [0, 2] rfl)
    · have hf := iten c1 hf
      refine lv_iload_n hx hb dX5_run_43 rfl (lv_at hl 3 rfl) ?_
      refine lv_if_eq (tgt := 68) hx hb dX5_run_44 (by decide) (fun c2 => ?_) (fun c2 => ?_)
      · have hf := itep c2 hf
        exact w_X5_run_L68 X hT hf hG (lv_sub hl [0, 2] rfl)
      · have hf := iten c2 hf
        refine lv_aload_n hx hb dX5_run_47 rfl (lv_at hl 0 rfl) ?_
        refine gf_X5_7 X hG hT dX5_run_48 ?_
        refine lv_bipush (v := 9) hx hb dX5_run_51 (by decide) ?_
        obtain ⟨hi3, hf⟩ := ck_some hf
        refine mw_iald X hG hT.2.1 hi3 dX5_run_53 ?_
        refine lv_if_le (tgt := 68) hx hb dX5_run_54 (by decide) (fun c4 => ?_) (fun c4 => ?_)
        · have hf := itep c4 hf
          exact w_X5_run_L68 X hT hf hG (lv_sub hl [0, 2] rfl)
        · have hf := iten c4 hf
          refine lv_aload_n hx hb dX5_run_57 rfl (lv_at hl 0 rfl) ?_
          obtain ⟨x6, M5, hr7, hf⟩ := bd2_some hf
          refine mw_callVi (rest := []) X hG hT.1 rfl (c_X5_rounds l dC dI cy a X.2.2.1 this hT M  hr7) (mw_cwV X 0 g_X5_134 hd_X5_rounds ⟨rfl, rfl⟩ ⟨Nat.le_of_ble_eq_true rfl, Nat.le_of_ble_eq_true rfl⟩) rfl hl.1 rfl (Nat.le_of_ble_eq_true rfl) dX5_run_58 (fun H locs hG => ?_)
          refine lv_istore_n (lv' := [(3, .int x6), (0, .ref (a this)), (1, .int v1), (2, .int v2), (4, .int v4)]) hx hb dX5_run_61 rfl hl (by decide) rfl (fun ls hl => ?_)
          obtain ⟨x8, ex8⟩ : ∃ y : Int32, y = v4 + (1 : Int32) := ⟨_, rfl⟩
          have hf := nm_of ex8 hf
          refine lv_iinc (v := x8) (lv' := [(4, .int x8), (3, .int x6), (0, .ref (a this)), (1, .int v1), (2, .int v2)]) hx hb dX5_run_62 hl (k := 4) rfl (by rw [ex8]; rfl) (by decide) rfl (fun ls hl => ?_)
          refine lv_goto (tgt := 37) hx hb dX5_run_65 (by decide) ?_
          exact ih _ _ _ _ _ _ hf hG (lv_sub hl [2, 3, 4, 1, 0] rfl)
set_option maxHeartbeats 4000000 in
set_option maxRecDepth 100000 in
theorem c_X5_run (l : Launch) (dC : Nat → ClassId) (dI : Nat → Nat → Nat) (cy : Nat → ClassId) (a : Nat → Nat) (ha : injU a) (this : Nat) (hT : K5 this) (M : Mem) (v1 : Int32) {o : (Int32 × Mem)} (hf : f_X5_run M this v1 = some o) : Met l yX5_run (wsU yX5_run cX5_run 5 (some .int)) ({ frames := 6, cells := 0, slots := 0, locals := 143 } : Room) (PU dC dI cy a [.ref (a this), .int v1] M) (QUi dC dI cy a o.1 o.2) 0 0 (AU a) := by
  refine mw_met (by decide) ha (Nat.le_of_ble_eq_true rfl) ?_
  intro p e s m below meth c ls X hG hl
  have hl : lv_has ls 5 [(0, .ref (a this)), (1, .int v1)] := hl
  have X : XU dC dI cy a p s m c [.ref (a this), .int v1].toArray meth cX5_run 5 RX5 (some .int) := X
  have hx := X.1.1
  have hb := X.1.2.1
  have hown := X.1.2.2.2.1
  have hts := X.1.2.2.2.2
  rw [f_X5_run] at hf
  refine lv_iload_n hx hb dX5_run_0 rfl (lv_at hl 1 rfl) ?_
  refine lv_i2l (v := v1.toInt64) hx hb dX5_run_1 rfl ?_
  refine lv_lconst (v := 1) hx hb dX5_run_2 (by decide) ?_
  refine lv_ldc2 (v := 40) hx hb hown (hts _ wd_cl_X5_129) dX5_run_3 ?_
  obtain ⟨x1, hr2, hf⟩ := bd_some hf
  refine mw_callSi (rest := []) X hG (c_X5_in l dC dI cy a X.2.2.1  M (v1.toInt64) (1 : Int64) (40 : Int64) hr2) (mw_cwS X 3 g_X5_23 hd_X5_in ⟨rfl, rfl⟩ ⟨Nat.le_of_ble_eq_true rfl, Nat.le_of_ble_eq_true rfl⟩) rfl hl.1 rfl (Nat.le_of_ble_eq_true rfl) dX5_run_6 (fun H locs hG => ?_)
  refine lv_if_ne (tgt := 15) hx hb dX5_run_9 (by decide) (fun c3 => ?_) (fun c3 => ?_)
  · have hf := iten c3 hf
    refine lv_aload_n hx hb dX5_run_15 rfl (lv_at hl 0 rfl) ?_
    obtain ⟨x5, M4, hr6, hf⟩ := bd2_some hf
    refine mw_callVi (rest := []) X hG hT.1 rfl (c_X5_canRun l dC dI cy a X.2.2.1 this hT M  hr6) (mw_cwV X 0 g_X5_131 hd_X5_canRun ⟨rfl, rfl⟩ ⟨Nat.le_of_ble_eq_true rfl, Nat.le_of_ble_eq_true rfl⟩) rfl hl.1 rfl (Nat.le_of_ble_eq_true rfl) dX5_run_16 (fun H locs hG => ?_)
    refine lv_if_ne (tgt := 25) hx hb dX5_run_19 (by decide) (fun c7 => ?_) (fun c7 => ?_)
    · have hf := iten c7 hf
      refine lv_aload_n hx hb dX5_run_25 rfl (lv_at hl 0 rfl) ?_
      refine gf_X5_7 X hG hT dX5_run_26 ?_
      refine lv_iconst (v := 3) hx hb dX5_run_29 (by decide) ?_
      obtain ⟨hi8, hf⟩ := ck_some hf
      refine mw_iald X hG hT.2.1 hi8 dX5_run_30 ?_
      refine lv_topi (fun x9 ex9 => ?_)
      have hf := nm_of ex9 hf
      refine lv_istore_n (lv' := [(2, .int x9), (0, .ref (a this)), (1, .int v1)]) hx hb dX5_run_31 rfl hl (by decide) rfl (fun ls hl => ?_)
      refine lv_iconst (v := 1) hx hb dX5_run_32 (by decide) ?_
      refine lv_istore_n (lv' := [(3, .int (1 : Int32)), (2, .int x9), (0, .ref (a this)), (1, .int v1)]) hx hb dX5_run_33 rfl hl (by decide) rfl (fun ls hl => ?_)
      refine lv_iconst (v := 0) hx hb dX5_run_34 (by decide) ?_
      refine lv_istore (lv' := [(4, .int (0 : Int32)), (3, .int (1 : Int32)), (2, .int x9), (0, .ref (a this)), (1, .int v1)]) hx hb dX5_run_35 hl (by decide) rfl (fun ls hl => ?_)
      exact w_X5_run_L37 X hT 1000 _ _ _ _ _ _ hf hG (lv_sub hl [3, 4, 2, 1, 0] rfl)
    · have hf := itep c7 hf
      refine lv_ldc (v := -1000000003) hx hb hown (hts _ wd_ct_X5_48) dX5_run_22 ?_
      obtain rfl := Option.some.inj hf
      exact mw_iret X hG dX5_run_24
  · have hf := itep c3 hf
    refine lv_ldc (v := -1000000002) hx hb hown (hts _ wd_ct_X5_29) dX5_run_12 ?_
    obtain rfl := Option.some.inj hf
    exact mw_iret X hG dX5_run_14
/-! X5_allMay -/
set_option maxHeartbeats 4000000 in
set_option maxRecDepth 100000 in
theorem w_X5_allMay_L30 {l : Launch} {dC : Nat → ClassId} {dI : Nat → Nat → Nat} {cy : Nat → ClassId} {a : Nat → Nat} {p : Program} {e : Env} {s : State} {m : MethodId} {args : Array Value} {below : List Frame} {meth : Method} {c : Code} (X : XU dC dI cy a p s m c args meth cX5_allMay 3 RX5 (some .int)) {M : Mem} {this : Nat} (hT : K5 this) {v2 : Int32} {s0 : Int32} {s1 : Int32} {o : Int32} {k4 : Int32 → Int32 → Option Int32} (hk4 : ∀ (v1 : Int32) (v2 : Int32) (H : Heap) (locs : List Loc) (ls : Array Slot), k4 v1 v2 = some o → GU dC dI cy a s.heap M H locs → lv_has ls 3 [(0, .ref (a this)), (1, .int v1), (2, .int v2)] → W p l e ({ frames := 4, cells := 0, slots := 0, locals := 91 } : Room) s m args below meth c H locs 0 0 (MQ below (QUi dC dI cy a o M) args s 0 0 (AU a)) (F0 m 4 ls [])) {H : Heap} {locs : List Loc} {ls : Array Slot} (hf : f_X5_allMay_L30 k4 M this v2 s0 s1 = some o) (hG : GU dC dI cy a s.heap M H locs) (hl : lv_has ls 3 [(0, .ref (a this)), (2, .int v2)]) : W p l e ({ frames := 4, cells := 0, slots := 0, locals := 91 } : Room) s m args below meth c H locs 0 0 (MQ below (QUi dC dI cy a o M) args s 0 0 (AU a)) (F0 m 30 ls [.int s0, .int s1]) := by
  have hx := X.1.1
  have hb := X.1.2.1
  have hown := X.1.2.2.2.1
  have hts := X.1.2.2.2.2
  rw [f_X5_allMay_L30] at hf
  refine lv_ior hx hb dX5_allMay_30 ?_
  refine lv_topi (fun x1 ex1 => ?_)
  have hf := nm_of ex1 hf
  refine lv_istore_n (lv' := [(1, .int x1), (0, .ref (a this)), (2, .int v2)]) hx hb dX5_allMay_31 rfl hl (by decide) rfl (fun ls hl => ?_)
  obtain ⟨x2, ex2⟩ : ∃ y : Int32, y = v2 + (1 : Int32) := ⟨_, rfl⟩
  have hf := nm_of ex2 hf
  refine lv_iinc (v := x2) (lv' := [(2, .int x2), (1, .int x1), (0, .ref (a this))]) hx hb dX5_allMay_32 hl (k := 2) rfl (by rw [ex2]; rfl) (by decide) rfl (fun ls hl => ?_)
  refine lv_goto (tgt := 4) hx hb dX5_allMay_35 (by decide) ?_
  exact hk4 _ _ _ _ _ hf hG (lv_sub hl [2, 1, 0] rfl)
set_option maxHeartbeats 4000000 in
set_option maxRecDepth 100000 in
theorem w_X5_allMay_L4 {l : Launch} {dC : Nat → ClassId} {dI : Nat → Nat → Nat} {cy : Nat → ClassId} {a : Nat → Nat} {p : Program} {e : Env} {s : State} {m : MethodId} {args : Array Value} {below : List Frame} {meth : Method} {c : Code} (X : XU dC dI cy a p s m c args meth cX5_allMay 3 RX5 (some .int)) {M : Mem} {this : Nat} (hT : K5 this) {o : Int32} : ∀ (n : Nat) (v1 : Int32) (v2 : Int32) (H : Heap) (locs : List Loc) (ls : Array Slot), f_X5_allMay_L4 M this n v1 v2 = some o → GU dC dI cy a s.heap M H locs → lv_has ls 3 [(0, .ref (a this)), (1, .int v1), (2, .int v2)] → W p l e ({ frames := 4, cells := 0, slots := 0, locals := 91 } : Room) s m args below meth c H locs 0 0 (MQ below (QUi dC dI cy a o M) args s 0 0 (AU a)) (F0 m 4 ls []) := by
  have hx := X.1.1
  have hb := X.1.2.1
  have hown := X.1.2.2.2.1
  have hts := X.1.2.2.2.2
  intro n
  induction n with
  | zero => intro v1 v2 H locs ls hf; cases hf
  | succ n ih =>
    intro v1 v2 H locs ls hf hG hl
    rw [f_X5_allMay_L4] at hf
    refine lv_iload_n hx hb dX5_allMay_4 rfl (lv_at hl 2 rfl) ?_
    refine lv_aload_n hx hb dX5_allMay_5 rfl (lv_at hl 0 rfl) ?_
    refine gf_X5_7 X hG hT dX5_allMay_6 ?_
    refine lv_iconst (v := 0) hx hb dX5_allMay_9 (by decide) ?_
    obtain ⟨hi1, hf⟩ := ck_some hf
    refine mw_iald X hG hT.2.1 hi1 dX5_allMay_10 ?_
    refine lv_icmp_ge (tgt := 38) hx hb dX5_allMay_11 (by decide) (fun c2 => ?_) (fun c2 => ?_)
    · have hf := itep c2 hf
      refine lv_iload_n hx hb dX5_allMay_38 rfl (lv_at hl 1 rfl) ?_
      obtain rfl := Option.some.inj hf
      exact mw_iret X hG dX5_allMay_39
    · have hf := iten c2 hf
      refine lv_iload_n hx hb dX5_allMay_14 rfl (lv_at hl 1 rfl) ?_
      refine lv_aload_n hx hb dX5_allMay_15 rfl (lv_at hl 0 rfl) ?_
      refine lv_iload_n hx hb dX5_allMay_16 rfl (lv_at hl 2 rfl) ?_
      obtain ⟨x3, hr4, hf⟩ := bd_some hf
      refine mw_callVi (rest := [.int v1]) X hG hT.1 rfl (c_X5_may l dC dI cy a X.2.2.1 this hT M v2 hr4) (mw_cwV X 1 g_X5_108 hd_X5_may ⟨rfl, rfl⟩ ⟨Nat.le_of_ble_eq_true rfl, Nat.le_of_ble_eq_true rfl⟩) rfl hl.1 rfl (Nat.le_of_ble_eq_true rfl) dX5_allMay_17 (fun H locs hG => ?_)
      refine lv_if_eq (tgt := 29) hx hb dX5_allMay_20 (by decide) (fun c5 => ?_) (fun c5 => ?_)
      · have hf := itep c5 hf
        refine lv_iconst (v := 0) hx hb dX5_allMay_29 (by decide) ?_
        exact w_X5_allMay_L30 X hT ih hf hG (lv_sub hl [0, 2] rfl)
      · have hf := iten c5 hf
        refine lv_iconst (v := 1) hx hb dX5_allMay_23 (by decide) ?_
        refine lv_iload_n hx hb dX5_allMay_24 rfl (lv_at hl 2 rfl) ?_
        refine lv_ishl hx hb dX5_allMay_25 ?_
        refine lv_goto (tgt := 30) hx hb dX5_allMay_26 (by decide) ?_
        exact w_X5_allMay_L30 X hT ih hf hG (lv_sub hl [0, 2] rfl)
set_option maxHeartbeats 4000000 in
set_option maxRecDepth 100000 in
theorem c_X5_allMay (l : Launch) (dC : Nat → ClassId) (dI : Nat → Nat → Nat) (cy : Nat → ClassId) (a : Nat → Nat) (ha : injU a) (this : Nat) (hT : K5 this) (M : Mem) {o : Int32} (hf : f_X5_allMay M this = some o) : Met l yX5_allMay (wsU yX5_allMay cX5_allMay 3 (some .int)) ({ frames := 4, cells := 0, slots := 0, locals := 91 } : Room) (PU dC dI cy a [.ref (a this)] M) (QUi dC dI cy a o M) 0 0 (AU a) := by
  refine mw_met (by decide) ha (Nat.le_of_ble_eq_true rfl) ?_
  intro p e s m below meth c ls X hG hl
  have hl : lv_has ls 3 [(0, .ref (a this))] := hl
  have X : XU dC dI cy a p s m c [.ref (a this)].toArray meth cX5_allMay 3 RX5 (some .int) := X
  have hx := X.1.1
  have hb := X.1.2.1
  have hown := X.1.2.2.2.1
  have hts := X.1.2.2.2.2
  rw [f_X5_allMay] at hf
  refine lv_iconst (v := 0) hx hb dX5_allMay_0 (by decide) ?_
  refine lv_istore_n (lv' := [(1, .int (0 : Int32)), (0, .ref (a this))]) hx hb dX5_allMay_1 rfl hl (by decide) rfl (fun ls hl => ?_)
  refine lv_iconst (v := 0) hx hb dX5_allMay_2 (by decide) ?_
  refine lv_istore_n (lv' := [(2, .int (0 : Int32)), (1, .int (0 : Int32)), (0, .ref (a this))]) hx hb dX5_allMay_3 rfl hl (by decide) rfl (fun ls hl => ?_)
  exact w_X5_allMay_L4 X hT 1000 _ _ _ _ _ hf hG (lv_sub hl [2, 1, 0] rfl)
/-! X5_letGo -/
set_option maxHeartbeats 4000000 in
set_option maxRecDepth 100000 in
theorem w_X5_letGo_L26 {l : Launch} {dC : Nat → ClassId} {dI : Nat → Nat → Nat} {cy : Nat → ClassId} {a : Nat → Nat} {p : Program} {e : Env} {s : State} {m : MethodId} {args : Array Value} {below : List Frame} {meth : Method} {c : Code} (X : XU dC dI cy a p s m c args meth cX5_letGo 1 RX5 (some .int)) {M : Mem} {this : Nat} (hT : K5 this) {s0 : Int32} {o : (Int32 × Mem)} {H : Heap} {locs : List Loc} {ls : Array Slot} (hf : f_X5_letGo_L26 M this s0 = some o) (hG : GU dC dI cy a s.heap M H locs) (hl : lv_has ls 1 [(0, .ref (a this))]) : W p l e ({ frames := 5, cells := 0, slots := 0, locals := 115 } : Room) s m args below meth c H locs 0 0 (MQ below (QUi dC dI cy a o.1 o.2) args s 0 0 (AU a)) (F0 m 26 ls [.int s0]) := by
  have hx := X.1.1
  have hb := X.1.2.1
  have hown := X.1.2.2.2.1
  have hts := X.1.2.2.2.2
  rw [f_X5_letGo_L26] at hf
  obtain rfl := Option.some.inj hf
  exact mw_iret X hG dX5_letGo_26
set_option maxHeartbeats 4000000 in
set_option maxRecDepth 100000 in
theorem w_X5_letGo_L17 {l : Launch} {dC : Nat → ClassId} {dI : Nat → Nat → Nat} {cy : Nat → ClassId} {a : Nat → Nat} {p : Program} {e : Env} {s : State} {m : MethodId} {args : Array Value} {below : List Frame} {meth : Method} {c : Code} (X : XU dC dI cy a p s m c args meth cX5_letGo 1 RX5 (some .int)) {M : Mem} {this : Nat} (hT : K5 this) {o : (Int32 × Mem)} {H : Heap} {locs : List Loc} {ls : Array Slot} (hf : f_X5_letGo_L17 M this = some o) (hG : GU dC dI cy a s.heap M H locs) (hl : lv_has ls 1 [(0, .ref (a this))]) : W p l e ({ frames := 5, cells := 0, slots := 0, locals := 115 } : Room) s m args below meth c H locs 0 0 (MQ below (QUi dC dI cy a o.1 o.2) args s 0 0 (AU a)) (F0 m 17 ls []) := by
  have hx := X.1.1
  have hb := X.1.2.1
  have hown := X.1.2.2.2.1
  have hts := X.1.2.2.2.2
  rw [f_X5_letGo_L17] at hf
  refine lv_ldc (v := -1000000003) hx hb hown (hts _ wd_ct_X5_48) dX5_letGo_17 ?_
  refine lv_goto (tgt := 26) hx hb dX5_letGo_19 (by decide) ?_
  exact w_X5_letGo_L26 X hT hf hG (lv_sub hl [0] rfl)
set_option maxHeartbeats 4000000 in
set_option maxRecDepth 100000 in
theorem c_X5_letGo (l : Launch) (dC : Nat → ClassId) (dI : Nat → Nat → Nat) (cy : Nat → ClassId) (a : Nat → Nat) (ha : injU a) (this : Nat) (hT : K5 this) (M : Mem) {o : (Int32 × Mem)} (hf : f_X5_letGo M this = some o) : Met l yX5_letGo (wsU yX5_letGo cX5_letGo 1 (some .int)) ({ frames := 5, cells := 0, slots := 0, locals := 115 } : Room) (PU dC dI cy a [.ref (a this)] M) (QUi dC dI cy a o.1 o.2) 0 0 (AU a) := by
  refine mw_met (by decide) ha (Nat.le_of_ble_eq_true rfl) ?_
  intro p e s m below meth c ls X hG hl
  have hl : lv_has ls 1 [(0, .ref (a this))] := hl
  have X : XU dC dI cy a p s m c [.ref (a this)].toArray meth cX5_letGo 1 RX5 (some .int) := X
  have hx := X.1.1
  have hb := X.1.2.1
  have hown := X.1.2.2.2.1
  have hts := X.1.2.2.2.2
  rw [f_X5_letGo] at hf
  refine lv_aload_n hx hb dX5_letGo_0 rfl (lv_at hl 0 rfl) ?_
  refine gf_X5_7 X hG hT dX5_letGo_1 ?_
  refine lv_bipush (v := 9) hx hb dX5_letGo_4 (by decide) ?_
  obtain ⟨hi1, hf⟩ := ck_some hf
  refine mw_iald X hG hT.2.1 hi1 dX5_letGo_6 ?_
  refine lv_if_eq (tgt := 17) hx hb dX5_letGo_7 (by decide) (fun c2 => ?_) (fun c2 => ?_)
  · have hf := itep c2 hf
    exact w_X5_letGo_L17 X hT hf hG (lv_sub hl [0] rfl)
  · have hf := iten c2 hf
    refine lv_aload_n hx hb dX5_letGo_10 rfl (lv_at hl 0 rfl) ?_
    obtain ⟨x3, hr4, hf⟩ := bd_some hf
    refine mw_callVi (rest := []) X hG hT.1 rfl (c_X5_allMay l dC dI cy a X.2.2.1 this hT M  hr4) (mw_cwV X 0 g_X5_137 hd_X5_allMay ⟨rfl, rfl⟩ ⟨Nat.le_of_ble_eq_true rfl, Nat.le_of_ble_eq_true rfl⟩) rfl hl.1 rfl (Nat.le_of_ble_eq_true rfl) dX5_letGo_11 (fun H locs hG => ?_)
    refine lv_if_eq (tgt := 22) hx hb dX5_letGo_14 (by decide) (fun c5 => ?_) (fun c5 => ?_)
    · have hf := itep c5 hf
      refine lv_aload_n hx hb dX5_letGo_22 rfl (lv_at hl 0 rfl) ?_
      obtain ⟨x7, M6, hr8, hf⟩ := bd2_some hf
      refine mw_callVi (rest := []) X hG hT.1 rfl (c_X5_lets l dC dI cy a X.2.2.1 this hT M  hr8) (mw_cwV X 0 g_X5_140 hd_X5_lets ⟨rfl, rfl⟩ ⟨Nat.le_of_ble_eq_true rfl, Nat.le_of_ble_eq_true rfl⟩) rfl hl.1 rfl (Nat.le_of_ble_eq_true rfl) dX5_letGo_23 (fun H locs hG => ?_)
      exact w_X5_letGo_L26 X hT hf hG (lv_sub hl [0] rfl)
    · have hf := iten c5 hf
      exact w_X5_letGo_L17 X hT hf hG (lv_sub hl [0] rfl)
/-! X5_finish -/
set_option maxHeartbeats 4000000 in
set_option maxRecDepth 100000 in
theorem w_X5_finish_L70 {l : Launch} {dC : Nat → ClassId} {dI : Nat → Nat → Nat} {cy : Nat → ClassId} {a : Nat → Nat} {p : Program} {e : Env} {s : State} {m : MethodId} {args : Array Value} {below : List Frame} {meth : Method} {c : Code} (X : XU dC dI cy a p s m c args meth cX5_finish 5 RX5 (some .int)) {M : Mem} {this : Nat} (hT : K5 this) {v1 : Int32} {v2 : Int32} {o : (Int32 × Mem)} {k21 : Mem → Int32 → Option (Int32 × Mem)} (hk21 : ∀ (M : Mem) (v2 : Int32) (H : Heap) (locs : List Loc) (ls : Array Slot), k21 M v2 = some o → GU dC dI cy a s.heap M H locs → lv_has ls 5 [(0, .ref (a this)), (1, .int v1), (2, .int v2)] → W p l e ({ frames := 6, cells := 0, slots := 0, locals := 143 } : Room) s m args below meth c H locs 0 0 (MQ below (QUi dC dI cy a o.1 o.2) args s 0 0 (AU a)) (F0 m 21 ls [])) {H : Heap} {locs : List Loc} {ls : Array Slot} (hf : f_X5_finish_L70 k21 M this v1 v2 = some o) (hG : GU dC dI cy a s.heap M H locs) (hl : lv_has ls 5 [(0, .ref (a this)), (1, .int v1), (2, .int v2)]) : W p l e ({ frames := 6, cells := 0, slots := 0, locals := 143 } : Room) s m args below meth c H locs 0 0 (MQ below (QUi dC dI cy a o.1 o.2) args s 0 0 (AU a)) (F0 m 70 ls []) := by
  have hx := X.1.1
  have hb := X.1.2.1
  have hown := X.1.2.2.2.1
  have hts := X.1.2.2.2.2
  rw [f_X5_finish_L70] at hf
  refine lv_goto (tgt := 21) hx hb dX5_finish_70 (by decide) ?_
  exact hk21 _ _ _ _ _ hf hG (lv_sub hl [0, 1, 2] rfl)
set_option maxHeartbeats 4000000 in
set_option maxRecDepth 100000 in
theorem w_X5_finish_L68 {l : Launch} {dC : Nat → ClassId} {dI : Nat → Nat → Nat} {cy : Nat → ClassId} {a : Nat → Nat} {p : Program} {e : Env} {s : State} {m : MethodId} {args : Array Value} {below : List Frame} {meth : Method} {c : Code} (X : XU dC dI cy a p s m c args meth cX5_finish 5 RX5 (some .int)) {M : Mem} {this : Nat} (hT : K5 this) {v1 : Int32} {s0 : Int32} {s1 : Int32} {o : (Int32 × Mem)} {k21 : Mem → Int32 → Option (Int32 × Mem)} (hk21 : ∀ (M : Mem) (v2 : Int32) (H : Heap) (locs : List Loc) (ls : Array Slot), k21 M v2 = some o → GU dC dI cy a s.heap M H locs → lv_has ls 5 [(0, .ref (a this)), (1, .int v1), (2, .int v2)] → W p l e ({ frames := 6, cells := 0, slots := 0, locals := 143 } : Room) s m args below meth c H locs 0 0 (MQ below (QUi dC dI cy a o.1 o.2) args s 0 0 (AU a)) (F0 m 21 ls [])) {H : Heap} {locs : List Loc} {ls : Array Slot} (hf : f_X5_finish_L68 k21 M this v1 s0 s1 = some o) (hG : GU dC dI cy a s.heap M H locs) (hl : lv_has ls 5 [(0, .ref (a this)), (1, .int v1)]) : W p l e ({ frames := 6, cells := 0, slots := 0, locals := 143 } : Room) s m args below meth c H locs 0 0 (MQ below (QUi dC dI cy a o.1 o.2) args s 0 0 (AU a)) (F0 m 68 ls [.int s0, .int s1]) := by
  have hx := X.1.1
  have hb := X.1.2.1
  have hown := X.1.2.2.2.1
  have hts := X.1.2.2.2.2
  rw [f_X5_finish_L68] at hf
  refine lv_isub hx hb dX5_finish_68 ?_
  refine lv_topi (fun x1 ex1 => ?_)
  have hf := nm_of ex1 hf
  refine lv_istore_n (lv' := [(2, .int x1), (0, .ref (a this)), (1, .int v1)]) hx hb dX5_finish_69 rfl hl (by decide) rfl (fun ls hl => ?_)
  exact w_X5_finish_L70 X hT hk21 hf hG (lv_sub hl [1, 2, 0] rfl)
set_option maxHeartbeats 4000000 in
set_option maxRecDepth 100000 in
theorem w_X5_finish_L73 {l : Launch} {dC : Nat → ClassId} {dI : Nat → Nat → Nat} {cy : Nat → ClassId} {a : Nat → Nat} {p : Program} {e : Env} {s : State} {m : MethodId} {args : Array Value} {below : List Frame} {meth : Method} {c : Code} (X : XU dC dI cy a p s m c args meth cX5_finish 5 RX5 (some .int)) {M : Mem} {this : Nat} (hT : K5 this) {v1 : Int32} {o : (Int32 × Mem)} {H : Heap} {locs : List Loc} {ls : Array Slot} (hf : f_X5_finish_L73 M this v1 = some o) (hG : GU dC dI cy a s.heap M H locs) (hl : lv_has ls 5 [(0, .ref (a this)), (1, .int v1)]) : W p l e ({ frames := 6, cells := 0, slots := 0, locals := 143 } : Room) s m args below meth c H locs 0 0 (MQ below (QUi dC dI cy a o.1 o.2) args s 0 0 (AU a)) (F0 m 73 ls []) := by
  have hx := X.1.1
  have hb := X.1.2.1
  have hown := X.1.2.2.2.1
  have hts := X.1.2.2.2.2
  rw [f_X5_finish_L73] at hf
  refine lv_aload_n hx hb dX5_finish_73 rfl (lv_at hl 0 rfl) ?_
  refine gf_X5_7 X hG hT dX5_finish_74 ?_
  refine lv_iconst (v := 3) hx hb dX5_finish_77 (by decide) ?_
  obtain ⟨hi1, hf⟩ := ck_some hf
  refine mw_iald X hG hT.2.1 hi1 dX5_finish_78 ?_
  refine lv_iload_n hx hb dX5_finish_79 rfl (lv_at hl 1 rfl) ?_
  refine lv_isub hx hb dX5_finish_80 ?_
  obtain rfl := Option.some.inj hf
  exact mw_iret X hG dX5_finish_81
set_option maxHeartbeats 4000000 in
set_option maxRecDepth 100000 in
theorem w_X5_finish_L21 {l : Launch} {dC : Nat → ClassId} {dI : Nat → Nat → Nat} {cy : Nat → ClassId} {a : Nat → Nat} {p : Program} {e : Env} {s : State} {m : MethodId} {args : Array Value} {below : List Frame} {meth : Method} {c : Code} (X : XU dC dI cy a p s m c args meth cX5_finish 5 RX5 (some .int)) {this : Nat} (hT : K5 this) {v1 : Int32} {o : (Int32 × Mem)} : ∀ (n : Nat) (M : Mem) (v2 : Int32) (H : Heap) (locs : List Loc) (ls : Array Slot), f_X5_finish_L21 this v1 n M v2 = some o → GU dC dI cy a s.heap M H locs → lv_has ls 5 [(0, .ref (a this)), (1, .int v1), (2, .int v2)] → W p l e ({ frames := 6, cells := 0, slots := 0, locals := 143 } : Room) s m args below meth c H locs 0 0 (MQ below (QUi dC dI cy a o.1 o.2) args s 0 0 (AU a)) (F0 m 21 ls []) := by
  have hx := X.1.1
  have hb := X.1.2.1
  have hown := X.1.2.2.2.1
  have hts := X.1.2.2.2.2
  intro n
  induction n with
  | zero => intro M v2 H locs ls hf; cases hf
  | succ n ih =>
    intro M v2 H locs ls hf hG hl
    rw [f_X5_finish_L21] at hf
    refine lv_iload_n hx hb dX5_finish_21 rfl (lv_at hl 2 rfl) ?_
    refine lv_if_le (tgt := 73) hx hb dX5_finish_22 (by decide) (fun c1 => ?_) (fun c1 => ?_)
    · have hf := itep c1 hf
      exact w_X5_finish_L73 X hT hf hG (lv_sub hl [0, 1] rfl)
    · have hf := iten c1 hf
      refine lv_aload_n hx hb dX5_finish_25 rfl (lv_at hl 0 rfl) ?_
      refine gf_X5_7 X hG hT dX5_finish_26 ?_
      refine lv_bipush (v := 9) hx hb dX5_finish_29 (by decide) ?_
      obtain ⟨hi2, hf⟩ := ck_some hf
      refine mw_iald X hG hT.2.1 hi2 dX5_finish_31 ?_
      refine lv_if_le (tgt := 73) hx hb dX5_finish_32 (by decide) (fun c3 => ?_) (fun c3 => ?_)
      · have hf := itep c3 hf
        exact w_X5_finish_L73 X hT hf hG (lv_sub hl [0, 1] rfl)
      · have hf := iten c3 hf
        refine lv_aload_n hx hb dX5_finish_35 rfl (lv_at hl 0 rfl) ?_
        obtain ⟨x5, M4, hr6, hf⟩ := bd2_some hf
        refine mw_callVi (rest := []) X hG hT.1 rfl (c_X5_rounds l dC dI cy a X.2.2.1 this hT M  hr6) (mw_cwV X 0 g_X5_134 hd_X5_rounds ⟨rfl, rfl⟩ ⟨Nat.le_of_ble_eq_true rfl, Nat.le_of_ble_eq_true rfl⟩) rfl hl.1 rfl (Nat.le_of_ble_eq_true rfl) dX5_finish_36 (fun H locs hG => ?_)
        refine lv_istore_n (lv' := [(3, .int x5), (0, .ref (a this)), (1, .int v1), (2, .int v2)]) hx hb dX5_finish_39 rfl hl (by decide) rfl (fun ls hl => ?_)
        obtain ⟨x7, ex7⟩ : ∃ y : Int32, y = v2 + (-1 : Int32) := ⟨_, rfl⟩
        have hf := nm_of ex7 hf
        refine lv_iinc (v := x7) (lv' := [(2, .int x7), (3, .int x5), (0, .ref (a this)), (1, .int v1)]) hx hb dX5_finish_40 hl (k := 3) rfl (by rw [ex7]; rfl) (by decide) rfl (fun ls hl => ?_)
        refine lv_iload_n hx hb dX5_finish_43 rfl (lv_at hl 1 rfl) ?_
        refine lv_if_ne (tgt := 70) hx hb dX5_finish_44 (by decide) (fun c8 => ?_) (fun c8 => ?_)
        · have hf := iten c8 hf
          exact w_X5_finish_L70 X hT ih hf hG (lv_sub hl [2, 3, 0] rfl)
        · have hf := itep c8 hf
          refine lv_iload_n hx hb dX5_finish_47 rfl (lv_at hl 0 rfl) ?_
          refine lv_if_le (tgt := 70) hx hb dX5_finish_48 (by decide) (fun c9 => ?_) (fun c9 => ?_)
          · have hf := itep c9 hf
            exact w_X5_finish_L70 X hT ih hf hG (lv_sub hl [2, 3, 0] rfl)
          · have hf := iten c9 hf
            refine lv_aload_n hx hb dX5_finish_51 rfl (lv_at hl 2 rfl) ?_
            obtain ⟨x11, M10, hr12, hf⟩ := bd2_some hf
            refine mw_callVi (rest := []) X hG hT.1 rfl (c_X5_lets l dC dI cy a X.2.2.1 this hT M4  hr12) (mw_cwV X 0 g_X5_140 hd_X5_lets ⟨rfl, rfl⟩ ⟨Nat.le_of_ble_eq_true rfl, Nat.le_of_ble_eq_true rfl⟩) rfl hl.1 rfl (Nat.le_of_ble_eq_true rfl) dX5_finish_52 (fun H locs hG => ?_)
            refine lv_istore (lv' := [(4, .int x11), (2, .int x7), (3, .int x5), (0, .ref (a this)), (1, .int v1)]) hx hb dX5_finish_55 hl (by decide) rfl (fun ls hl => ?_)
            refine lv_iload_n hx hb dX5_finish_57 rfl (lv_at hl 1 rfl) ?_
            refine lv_iload hx hb dX5_finish_58 (lv_at hl 0 rfl) ?_
            refine lv_if_ge (tgt := 67) hx hb dX5_finish_60 (by decide) (fun c13 => ?_) (fun c13 => ?_)
            · have hf := itep c13 hf
              refine lv_iconst (v := 1) hx hb dX5_finish_67 (by decide) ?_
              exact w_X5_finish_L68 X hT ih hf hG (lv_sub hl [3, 4] rfl)
            · have hf := iten c13 hf
              refine lv_iconst (v := 0) hx hb dX5_finish_63 (by decide) ?_
              refine lv_goto (tgt := 68) hx hb dX5_finish_64 (by decide) ?_
              exact w_X5_finish_L68 X hT ih hf hG (lv_sub hl [3, 4] rfl)
set_option maxHeartbeats 4000000 in
set_option maxRecDepth 100000 in
theorem c_X5_finish (l : Launch) (dC : Nat → ClassId) (dI : Nat → Nat → Nat) (cy : Nat → ClassId) (a : Nat → Nat) (ha : injU a) (this : Nat) (hT : K5 this) (M : Mem) {o : (Int32 × Mem)} (hf : f_X5_finish M this = some o) : Met l yX5_finish (wsU yX5_finish cX5_finish 5 (some .int)) ({ frames := 6, cells := 0, slots := 0, locals := 143 } : Room) (PU dC dI cy a [.ref (a this)] M) (QUi dC dI cy a o.1 o.2) 0 0 (AU a) := by
  refine mw_met (by decide) ha (Nat.le_of_ble_eq_true rfl) ?_
  intro p e s m below meth c ls X hG hl
  have hl : lv_has ls 5 [(0, .ref (a this))] := hl
  have X : XU dC dI cy a p s m c [.ref (a this)].toArray meth cX5_finish 5 RX5 (some .int) := X
  have hx := X.1.1
  have hb := X.1.2.1
  have hown := X.1.2.2.2.1
  have hts := X.1.2.2.2.2
  rw [f_X5_finish] at hf
  refine lv_aload_n hx hb dX5_finish_0 rfl (lv_at hl 0 rfl) ?_
  obtain ⟨x2, M1, hr3, hf⟩ := bd2_some hf
  refine mw_callVi (rest := []) X hG hT.1 rfl (c_X5_canRun l dC dI cy a X.2.2.1 this hT M  hr3) (mw_cwV X 0 g_X5_131 hd_X5_canRun ⟨rfl, rfl⟩ ⟨Nat.le_of_ble_eq_true rfl, Nat.le_of_ble_eq_true rfl⟩) rfl hl.1 rfl (Nat.le_of_ble_eq_true rfl) dX5_finish_1 (fun H locs hG => ?_)
  refine lv_if_ne (tgt := 10) hx hb dX5_finish_4 (by decide) (fun c4 => ?_) (fun c4 => ?_)
  · have hf := iten c4 hf
    refine lv_aload_n hx hb dX5_finish_10 rfl (lv_at hl 0 rfl) ?_
    refine gf_X5_7 X hG hT dX5_finish_11 ?_
    refine lv_iconst (v := 3) hx hb dX5_finish_14 (by decide) ?_
    obtain ⟨hi5, hf⟩ := ck_some hf
    refine mw_iald X hG hT.2.1 hi5 dX5_finish_15 ?_
    refine lv_topi (fun x6 ex6 => ?_)
    have hf := nm_of ex6 hf
    refine lv_istore_n (lv' := [(1, .int x6), (0, .ref (a this))]) hx hb dX5_finish_16 rfl hl (by decide) rfl (fun ls hl => ?_)
    refine lv_sipush (v := 400) hx hb dX5_finish_17 (by decide) ?_
    refine lv_istore_n (lv' := [(2, .int (400 : Int32)), (1, .int x6), (0, .ref (a this))]) hx hb dX5_finish_20 rfl hl (by decide) rfl (fun ls hl => ?_)
    exact w_X5_finish_L21 X hT 1000 _ _ _ _ _ hf hG (lv_sub hl [2, 1, 0] rfl)
  · have hf := itep c4 hf
    refine lv_ldc (v := -1000000003) hx hb hown (hts _ wd_ct_X5_48) dX5_finish_7 ?_
    obtain rfl := Option.some.inj hf
    exact mw_iret X hG dX5_finish_9
/-! X5_told -/
set_option maxHeartbeats 4000000 in
set_option maxRecDepth 100000 in
theorem w_X5_told_L153 {l : Launch} {dC : Nat → ClassId} {dI : Nat → Nat → Nat} {cy : Nat → ClassId} {a : Nat → Nat} {p : Program} {e : Env} {s : State} {m : MethodId} {args : Array Value} {below : List Frame} {meth : Method} {c : Code} (X : XU dC dI cy a p s m c args meth cX5_told 2 RX5 (some .int)) {M : Mem} {this : Nat} (hT : K5 this) {s0 : Int32} {o : (Int32 × Mem)} {H : Heap} {locs : List Loc} {ls : Array Slot} (hf : f_X5_told_L153 M this s0 = some o) (hG : GU dC dI cy a s.heap M H locs) (hl : lv_has ls 2 [(0, .ref (a this))]) : W p l e ({ frames := 5, cells := 0, slots := 0, locals := 113 } : Room) s m args below meth c H locs 0 0 (MQ below (QUi dC dI cy a o.1 o.2) args s 0 0 (AU a)) (F0 m 153 ls [.int s0]) := by
  have hx := X.1.1
  have hb := X.1.2.1
  have hown := X.1.2.2.2.1
  have hts := X.1.2.2.2.2
  rw [f_X5_told_L153] at hf
  obtain rfl := Option.some.inj hf
  exact mw_iret X hG dX5_told_153
set_option maxHeartbeats 4000000 in
set_option maxRecDepth 100000 in
theorem c_X5_told (l : Launch) (dC : Nat → ClassId) (dI : Nat → Nat → Nat) (cy : Nat → ClassId) (a : Nat → Nat) (ha : injU a) (this : Nat) (hT : K5 this) (M : Mem) (v1 : Int32) {o : (Int32 × Mem)} (hf : f_X5_told M this v1 = some o) : Met l yX5_told (wsU yX5_told cX5_told 2 (some .int)) ({ frames := 5, cells := 0, slots := 0, locals := 113 } : Room) (PU dC dI cy a [.ref (a this), .int v1] M) (QUi dC dI cy a o.1 o.2) 0 0 (AU a) := by
  refine mw_met (by decide) ha (Nat.le_of_ble_eq_true rfl) ?_
  intro p e s m below meth c ls X hG hl
  have hl : lv_has ls 2 [(0, .ref (a this)), (1, .int v1)] := hl
  have X : XU dC dI cy a p s m c [.ref (a this), .int v1].toArray meth cX5_told 2 RX5 (some .int) := X
  have hx := X.1.1
  have hb := X.1.2.1
  have hown := X.1.2.2.2.1
  have hts := X.1.2.2.2.2
  rw [f_X5_told] at hf
  refine lv_iload_n hx hb dX5_told_0 rfl (lv_at hl 1 rfl) ?_
  by_cases c1 : v1 = (0 : Int32)
  · have hf := itep c1 hf
    refine lv_tableIn (off := 67) (tgt := 68) hx hb dX5_told_1 (by rw [c1]; decide) (by rw [c1]; decide) (by rw [c1]; rfl) (by decide) ?_
    refine lv_aload_n hx hb dX5_told_68 rfl (lv_at hl 0 rfl) ?_
    refine gf_X5_7 X hG hT dX5_told_69 ?_
    refine lv_iconst (v := 0) hx hb dX5_told_72 (by decide) ?_
    obtain ⟨hi2, hf⟩ := ck_some hf
    refine mw_iald X hG hT.2.1 hi2 dX5_told_73 ?_
    obtain rfl := Option.some.inj hf
    exact mw_iret X hG dX5_told_74
  · have hf := iten c1 hf
    by_cases c3 : v1 = (1 : Int32)
    · have hf := itep c3 hf
      refine lv_tableIn (off := 74) (tgt := 75) hx hb dX5_told_1 (by rw [c3]; decide) (by rw [c3]; decide) (by rw [c3]; rfl) (by decide) ?_
      refine lv_aload_n hx hb dX5_told_75 rfl (lv_at hl 0 rfl) ?_
      refine gf_X5_7 X hG hT dX5_told_76 ?_
      refine lv_iconst (v := 1) hx hb dX5_told_79 (by decide) ?_
      obtain ⟨hi4, hf⟩ := ck_some hf
      refine mw_iald X hG hT.2.1 hi4 dX5_told_80 ?_
      obtain rfl := Option.some.inj hf
      exact mw_iret X hG dX5_told_81
    · have hf := iten c3 hf
      by_cases c5 : v1 = (2 : Int32)
      · have hf := itep c5 hf
        refine lv_tableIn (off := 81) (tgt := 82) hx hb dX5_told_1 (by rw [c5]; decide) (by rw [c5]; decide) (by rw [c5]; rfl) (by decide) ?_
        refine lv_aload_n hx hb dX5_told_82 rfl (lv_at hl 0 rfl) ?_
        refine gf_X5_7 X hG hT dX5_told_83 ?_
        refine lv_iconst (v := 2) hx hb dX5_told_86 (by decide) ?_
        obtain ⟨hi6, hf⟩ := ck_some hf
        refine mw_iald X hG hT.2.1 hi6 dX5_told_87 ?_
        obtain rfl := Option.some.inj hf
        exact mw_iret X hG dX5_told_88
      · have hf := iten c5 hf
        by_cases c7 : v1 = (3 : Int32)
        · have hf := itep c7 hf
          refine lv_tableIn (off := 88) (tgt := 89) hx hb dX5_told_1 (by rw [c7]; decide) (by rw [c7]; decide) (by rw [c7]; rfl) (by decide) ?_
          refine lv_aload_n hx hb dX5_told_89 rfl (lv_at hl 0 rfl) ?_
          refine gf_X5_7 X hG hT dX5_told_90 ?_
          refine lv_bipush (v := 9) hx hb dX5_told_93 (by decide) ?_
          obtain ⟨hi8, hf⟩ := ck_some hf
          refine mw_iald X hG hT.2.1 hi8 dX5_told_95 ?_
          obtain rfl := Option.some.inj hf
          exact mw_iret X hG dX5_told_96
        · have hf := iten c7 hf
          by_cases c9 : v1 = (4 : Int32)
          · have hf := itep c9 hf
            refine lv_tableIn (off := 96) (tgt := 97) hx hb dX5_told_1 (by rw [c9]; decide) (by rw [c9]; decide) (by rw [c9]; rfl) (by decide) ?_
            refine lv_aload_n hx hb dX5_told_97 rfl (lv_at hl 0 rfl) ?_
            refine gf_X5_7 X hG hT dX5_told_98 ?_
            refine lv_iconst (v := 3) hx hb dX5_told_101 (by decide) ?_
            obtain ⟨hi10, hf⟩ := ck_some hf
            refine mw_iald X hG hT.2.1 hi10 dX5_told_102 ?_
            obtain rfl := Option.some.inj hf
            exact mw_iret X hG dX5_told_103
          · have hf := iten c9 hf
            by_cases c11 : v1 = (5 : Int32)
            · have hf := itep c11 hf
              refine lv_tableIn (off := 103) (tgt := 104) hx hb dX5_told_1 (by rw [c11]; decide) (by rw [c11]; decide) (by rw [c11]; rfl) (by decide) ?_
              refine lv_aload_n hx hb dX5_told_104 rfl (lv_at hl 0 rfl) ?_
              refine gf_X5_7 X hG hT dX5_told_105 ?_
              refine lv_iconst (v := 4) hx hb dX5_told_108 (by decide) ?_
              obtain ⟨hi12, hf⟩ := ck_some hf
              refine mw_iald X hG hT.2.1 hi12 dX5_told_109 ?_
              obtain rfl := Option.some.inj hf
              exact mw_iret X hG dX5_told_110
            · have hf := iten c11 hf
              by_cases c13 : v1 = (6 : Int32)
              · have hf := itep c13 hf
                refine lv_tableIn (off := 110) (tgt := 111) hx hb dX5_told_1 (by rw [c13]; decide) (by rw [c13]; decide) (by rw [c13]; rfl) (by decide) ?_
                refine lv_aload_n hx hb dX5_told_111 rfl (lv_at hl 0 rfl) ?_
                refine gf_X5_7 X hG hT dX5_told_112 ?_
                refine lv_iconst (v := 5) hx hb dX5_told_115 (by decide) ?_
                obtain ⟨hi14, hf⟩ := ck_some hf
                refine mw_iald X hG hT.2.1 hi14 dX5_told_116 ?_
                obtain rfl := Option.some.inj hf
                exact mw_iret X hG dX5_told_117
              · have hf := iten c13 hf
                by_cases c15 : v1 = (7 : Int32)
                · have hf := itep c15 hf
                  refine lv_tableIn (off := 117) (tgt := 118) hx hb dX5_told_1 (by rw [c15]; decide) (by rw [c15]; decide) (by rw [c15]; rfl) (by decide) ?_
                  refine lv_aload_n hx hb dX5_told_118 rfl (lv_at hl 0 rfl) ?_
                  refine gf_X5_7 X hG hT dX5_told_119 ?_
                  refine lv_bipush (v := 6) hx hb dX5_told_122 (by decide) ?_
                  obtain ⟨hi16, hf⟩ := ck_some hf
                  refine mw_iald X hG hT.2.1 hi16 dX5_told_124 ?_
                  obtain rfl := Option.some.inj hf
                  exact mw_iret X hG dX5_told_125
                · have hf := iten c15 hf
                  by_cases c17 : v1 = (8 : Int32)
                  · have hf := itep c17 hf
                    refine lv_tableIn (off := 125) (tgt := 126) hx hb dX5_told_1 (by rw [c17]; decide) (by rw [c17]; decide) (by rw [c17]; rfl) (by decide) ?_
                    refine lv_aload_n hx hb dX5_told_126 rfl (lv_at hl 0 rfl) ?_
                    obtain ⟨x18, hr19, hf⟩ := bd_some hf
                    refine mw_callVi (rest := []) X hG hT.1 rfl (c_X5_allMay l dC dI cy a X.2.2.1 this hT M  hr19) (mw_cwV X 0 g_X5_137 hd_X5_allMay ⟨rfl, rfl⟩ ⟨Nat.le_of_ble_eq_true rfl, Nat.le_of_ble_eq_true rfl⟩) rfl hl.1 rfl (Nat.le_of_ble_eq_true rfl) dX5_told_127 (fun H locs hG => ?_)
                    obtain rfl := Option.some.inj hf
                    exact mw_iret X hG dX5_told_130
                  · have hf := iten c17 hf
                    by_cases c20 : v1 = (9 : Int32)
                    · have hf := itep c20 hf
                      refine lv_tableIn (off := 130) (tgt := 131) hx hb dX5_told_1 (by rw [c20]; decide) (by rw [c20]; decide) (by rw [c20]; rfl) (by decide) ?_
                      refine lv_aload_n hx hb dX5_told_131 rfl (lv_at hl 0 rfl) ?_
                      obtain ⟨x21, hr22, hf⟩ := bd_some hf
                      refine mw_callVi (rest := []) X hG hT.1 rfl (c_X5_leastTime l dC dI cy a X.2.2.1 this hT M  hr22) (mw_cwV X 0 g_X5_118 hd_X5_leastTime ⟨rfl, rfl⟩ ⟨Nat.le_of_ble_eq_true rfl, Nat.le_of_ble_eq_true rfl⟩) rfl hl.1 rfl (Nat.le_of_ble_eq_true rfl) dX5_told_132 (fun H locs hG => ?_)
                      obtain rfl := Option.some.inj hf
                      exact mw_iret X hG dX5_told_135
                    · have hf := iten c20 hf
                      by_cases c23 : v1 = (10 : Int32)
                      · have hf := itep c23 hf
                        refine lv_tableIn (off := 135) (tgt := 136) hx hb dX5_told_1 (by rw [c23]; decide) (by rw [c23]; decide) (by rw [c23]; rfl) (by decide) ?_
                        refine lv_aload_n hx hb dX5_told_136 rfl (lv_at hl 0 rfl) ?_
                        refine gf_X5_30 X hG hT dX5_told_137 ?_
                        obtain rfl := Option.some.inj hf
                        exact mw_iret X hG dX5_told_140
                      · have hf := iten c23 hf
                        by_cases c24 : v1 = (11 : Int32)
                        · have hf := itep c24 hf
                          refine lv_tableIn (off := 140) (tgt := 141) hx hb dX5_told_1 (by rw [c24]; decide) (by rw [c24]; decide) (by rw [c24]; rfl) (by decide) ?_
                          refine lv_aload_n hx hb dX5_told_141 rfl (lv_at hl 0 rfl) ?_
                          obtain ⟨x26, M25, hr27, hf⟩ := bd2_some hf
                          refine mw_callVi (rest := []) X hG hT.1 rfl (c_X5_isRing l dC dI cy a X.2.2.1 this hT M  hr27) (mw_cwV X 0 g_X5_125 hd_X5_isRing ⟨rfl, rfl⟩ ⟨Nat.le_of_ble_eq_true rfl, Nat.le_of_ble_eq_true rfl⟩) rfl hl.1 rfl (Nat.le_of_ble_eq_true rfl) dX5_told_142 (fun H locs hG => ?_)
                          refine lv_if_eq (tgt := 152) hx hb dX5_told_145 (by decide) (fun c28 => ?_) (fun c28 => ?_)
                          · have hf := itep c28 hf
                            refine lv_iconst (v := 0) hx hb dX5_told_152 (by decide) ?_
                            exact w_X5_told_L153 X hT hf hG (lv_sub hl [0] rfl)
                          · have hf := iten c28 hf
                            refine lv_iconst (v := 1) hx hb dX5_told_148 (by decide) ?_
                            refine lv_goto (tgt := 153) hx hb dX5_told_149 (by decide) ?_
                            exact w_X5_told_L153 X hT hf hG (lv_sub hl [0] rfl)
                        · have hf := iten c24 hf
                          by_cases c29 : v1 = (12 : Int32)
                          · have hf := itep c29 hf
                            refine lv_tableIn (off := 153) (tgt := 154) hx hb dX5_told_1 (by rw [c29]; decide) (by rw [c29]; decide) (by rw [c29]; rfl) (by decide) ?_
                            refine lv_aload_n hx hb dX5_told_154 rfl (lv_at hl 0 rfl) ?_
                            refine gf_X5_7 X hG hT dX5_told_155 ?_
                            refine lv_bipush (v := 7) hx hb dX5_told_158 (by decide) ?_
                            obtain ⟨hi30, hf⟩ := ck_some hf
                            refine mw_iald X hG hT.2.1 hi30 dX5_told_160 ?_
                            obtain rfl := Option.some.inj hf
                            exact mw_iret X hG dX5_told_161
                          · have hf := iten c29 hf
                            refine lv_tableOut (tgt := 162) hx hb dX5_told_1 (by have q0 : v1.toInt ≠ 0 := fun e => c1 (Int32.toInt_inj.mp (e.trans (by decide))); have q1 : v1.toInt ≠ 1 := fun e => c3 (Int32.toInt_inj.mp (e.trans (by decide))); have q2 : v1.toInt ≠ 2 := fun e => c5 (Int32.toInt_inj.mp (e.trans (by decide))); have q3 : v1.toInt ≠ 3 := fun e => c7 (Int32.toInt_inj.mp (e.trans (by decide))); have q4 : v1.toInt ≠ 4 := fun e => c9 (Int32.toInt_inj.mp (e.trans (by decide))); have q5 : v1.toInt ≠ 5 := fun e => c11 (Int32.toInt_inj.mp (e.trans (by decide))); have q6 : v1.toInt ≠ 6 := fun e => c13 (Int32.toInt_inj.mp (e.trans (by decide))); have q7 : v1.toInt ≠ 7 := fun e => c15 (Int32.toInt_inj.mp (e.trans (by decide))); have q8 : v1.toInt ≠ 8 := fun e => c17 (Int32.toInt_inj.mp (e.trans (by decide))); have q9 : v1.toInt ≠ 9 := fun e => c20 (Int32.toInt_inj.mp (e.trans (by decide))); have q10 : v1.toInt ≠ 10 := fun e => c23 (Int32.toInt_inj.mp (e.trans (by decide))); have q11 : v1.toInt ≠ 11 := fun e => c24 (Int32.toInt_inj.mp (e.trans (by decide))); have q12 : v1.toInt ≠ 12 := fun e => c29 (Int32.toInt_inj.mp (e.trans (by decide))); omega) (by decide) ?_
                            refine lv_ldc (v := -1000000002) hx hb hown (hts _ wd_ct_X5_29) dX5_told_162 ?_
                            obtain rfl := Option.some.inj hf
                            exact mw_iret X hG dX5_told_164
/-! X5_waitsBy -/
set_option maxHeartbeats 4000000 in
set_option maxRecDepth 100000 in
theorem w_X5_waitsBy_L27 {l : Launch} {dC : Nat → ClassId} {dI : Nat → Nat → Nat} {cy : Nat → ClassId} {a : Nat → Nat} {p : Program} {e : Env} {s : State} {m : MethodId} {args : Array Value} {below : List Frame} {meth : Method} {c : Code} (X : XU dC dI cy a p s m c args meth cX5_waitsBy 2 RX5 (some .int)) {M : Mem} {this : Nat} (hT : K5 this) {s0 : Int32} {o : Int32} {H : Heap} {locs : List Loc} {ls : Array Slot} (hf : f_X5_waitsBy_L27 M this s0 = some o) (hG : GU dC dI cy a s.heap M H locs) (hl : lv_has ls 2 [(0, .ref (a this))]) : W p l e ({ frames := 4, cells := 0, slots := 0, locals := 91 } : Room) s m args below meth c H locs 0 0 (MQ below (QUi dC dI cy a o M) args s 0 0 (AU a)) (F0 m 27 ls [.int s0]) := by
  have hx := X.1.1
  have hb := X.1.2.1
  have hown := X.1.2.2.2.1
  have hts := X.1.2.2.2.2
  rw [f_X5_waitsBy_L27] at hf
  obtain rfl := Option.some.inj hf
  exact mw_iret X hG dX5_waitsBy_27
set_option maxHeartbeats 4000000 in
set_option maxRecDepth 100000 in
theorem w_X5_waitsBy_L18 {l : Launch} {dC : Nat → ClassId} {dI : Nat → Nat → Nat} {cy : Nat → ClassId} {a : Nat → Nat} {p : Program} {e : Env} {s : State} {m : MethodId} {args : Array Value} {below : List Frame} {meth : Method} {c : Code} (X : XU dC dI cy a p s m c args meth cX5_waitsBy 2 RX5 (some .int)) {M : Mem} {this : Nat} (hT : K5 this) {o : Int32} {H : Heap} {locs : List Loc} {ls : Array Slot} (hf : f_X5_waitsBy_L18 M this = some o) (hG : GU dC dI cy a s.heap M H locs) (hl : lv_has ls 2 [(0, .ref (a this))]) : W p l e ({ frames := 4, cells := 0, slots := 0, locals := 91 } : Room) s m args below meth c H locs 0 0 (MQ below (QUi dC dI cy a o M) args s 0 0 (AU a)) (F0 m 18 ls []) := by
  have hx := X.1.1
  have hb := X.1.2.1
  have hown := X.1.2.2.2.1
  have hts := X.1.2.2.2.2
  rw [f_X5_waitsBy_L18] at hf
  refine lv_iconst (v := -1) hx hb dX5_waitsBy_18 (by decide) ?_
  refine lv_goto (tgt := 27) hx hb dX5_waitsBy_19 (by decide) ?_
  exact w_X5_waitsBy_L27 X hT hf hG (lv_sub hl [0] rfl)
set_option maxHeartbeats 4000000 in
set_option maxRecDepth 100000 in
theorem c_X5_waitsBy (l : Launch) (dC : Nat → ClassId) (dI : Nat → Nat → Nat) (cy : Nat → ClassId) (a : Nat → Nat) (ha : injU a) (this : Nat) (hT : K5 this) (M : Mem) (v1 : Int32) {o : Int32} (hf : f_X5_waitsBy M this v1 = some o) : Met l yX5_waitsBy (wsU yX5_waitsBy cX5_waitsBy 2 (some .int)) ({ frames := 4, cells := 0, slots := 0, locals := 91 } : Room) (PU dC dI cy a [.ref (a this), .int v1] M) (QUi dC dI cy a o M) 0 0 (AU a) := by
  refine mw_met (by decide) ha (Nat.le_of_ble_eq_true rfl) ?_
  intro p e s m below meth c ls X hG hl
  have hl : lv_has ls 2 [(0, .ref (a this)), (1, .int v1)] := hl
  have X : XU dC dI cy a p s m c [.ref (a this), .int v1].toArray meth cX5_waitsBy 2 RX5 (some .int) := X
  have hx := X.1.1
  have hb := X.1.2.1
  have hown := X.1.2.2.2.1
  have hts := X.1.2.2.2.2
  rw [f_X5_waitsBy] at hf
  refine lv_aload_n hx hb dX5_waitsBy_0 rfl (lv_at hl 0 rfl) ?_
  refine lv_iconst (v := 0) hx hb dX5_waitsBy_1 (by decide) ?_
  refine lv_iload_n hx hb dX5_waitsBy_2 rfl (lv_at hl 1 rfl) ?_
  obtain ⟨x1, hr2, hf⟩ := bd_some hf
  refine mw_callVi (rest := []) X hG hT.1 rfl (c_X5_firstOf l dC dI cy a X.2.2.1 this hT M (0 : Int32) v1 hr2) (mw_cwV X 2 g_X5_88 hd_X5_firstOf ⟨rfl, rfl⟩ ⟨Nat.le_of_ble_eq_true rfl, Nat.le_of_ble_eq_true rfl⟩) rfl hl.1 rfl (Nat.le_of_ble_eq_true rfl) dX5_waitsBy_3 (fun H locs hG => ?_)
  refine lv_iconst (v := -1) hx hb dX5_waitsBy_6 (by decide) ?_
  refine lv_icmp_eq (tgt := 18) hx hb dX5_waitsBy_7 (by decide) (fun c3 => ?_) (fun c3 => ?_)
  · have hf := itep c3 hf
    exact w_X5_waitsBy_L18 X hT hf hG (lv_sub hl [0] rfl)
  · have hf := iten c3 hf
    refine lv_aload_n hx hb dX5_waitsBy_10 rfl (lv_at hl 0 rfl) ?_
    refine lv_iload_n hx hb dX5_waitsBy_11 rfl (lv_at hl 1 rfl) ?_
    obtain ⟨x4, hr5, hf⟩ := bd_some hf
    refine mw_callVi (rest := []) X hG hT.1 rfl (c_X5_may l dC dI cy a X.2.2.1 this hT M v1 hr5) (mw_cwV X 1 g_X5_108 hd_X5_may ⟨rfl, rfl⟩ ⟨Nat.le_of_ble_eq_true rfl, Nat.le_of_ble_eq_true rfl⟩) rfl hl.1 rfl (Nat.le_of_ble_eq_true rfl) dX5_waitsBy_12 (fun H locs hG => ?_)
    refine lv_if_eq (tgt := 22) hx hb dX5_waitsBy_15 (by decide) (fun c6 => ?_) (fun c6 => ?_)
    · have hf := itep c6 hf
      refine lv_aload_n hx hb dX5_waitsBy_22 rfl (lv_at hl 0 rfl) ?_
      refine lv_iload_n hx hb dX5_waitsBy_23 rfl (lv_at hl 1 rfl) ?_
      obtain ⟨x7, hr8, hf⟩ := bd_some hf
      refine mw_callVi (rest := []) X hG hT.1 rfl (c_X5_leastTo l dC dI cy a X.2.2.1 this hT M v1 hr8) (mw_cwV X 1 g_X5_92 hd_X5_leastTo ⟨rfl, rfl⟩ ⟨Nat.le_of_ble_eq_true rfl, Nat.le_of_ble_eq_true rfl⟩) rfl hl.1 rfl (Nat.le_of_ble_eq_true rfl) dX5_waitsBy_24 (fun H locs hG => ?_)
      exact w_X5_waitsBy_L27 X hT hf hG (lv_sub hl [0] rfl)
    · have hf := iten c6 hf
      exact w_X5_waitsBy_L18 X hT hf hG (lv_sub hl [0] rfl)
/-! X5_waysTo -/
set_option maxHeartbeats 4000000 in
set_option maxRecDepth 100000 in
theorem w_X5_waysTo_L36 {l : Launch} {dC : Nat → ClassId} {dI : Nat → Nat → Nat} {cy : Nat → ClassId} {a : Nat → Nat} {p : Program} {e : Env} {s : State} {m : MethodId} {args : Array Value} {below : List Frame} {meth : Method} {c : Code} (X : XU dC dI cy a p s m c args meth cX5_waysTo 4 RX5 (some .int)) {M : Mem} {this : Nat} (hT : K5 this) {v1 : Int32} {v3 : Int32} {s0 : Int32} {s1 : Int32} {o : Int32} {k4 : Int32 → Int32 → Option Int32} (hk4 : ∀ (v2 : Int32) (v3 : Int32) (H : Heap) (locs : List Loc) (ls : Array Slot), k4 v2 v3 = some o → GU dC dI cy a s.heap M H locs → lv_has ls 4 [(0, .ref (a this)), (1, .int v1), (2, .int v2), (3, .int v3)] → W p l e ({ frames := 1, cells := 0, slots := 0, locals := 21 } : Room) s m args below meth c H locs 0 0 (MQ below (QUi dC dI cy a o M) args s 0 0 (AU a)) (F0 m 4 ls [])) {H : Heap} {locs : List Loc} {ls : Array Slot} (hf : f_X5_waysTo_L36 k4 M this v1 v3 s0 s1 = some o) (hG : GU dC dI cy a s.heap M H locs) (hl : lv_has ls 4 [(0, .ref (a this)), (1, .int v1), (3, .int v3)]) : W p l e ({ frames := 1, cells := 0, slots := 0, locals := 21 } : Room) s m args below meth c H locs 0 0 (MQ below (QUi dC dI cy a o M) args s 0 0 (AU a)) (F0 m 36 ls [.int s0, .int s1]) := by
  have hx := X.1.1
  have hb := X.1.2.1
  have hown := X.1.2.2.2.1
  have hts := X.1.2.2.2.2
  rw [f_X5_waysTo_L36] at hf
  refine lv_iadd hx hb dX5_waysTo_36 ?_
  refine lv_topi (fun x1 ex1 => ?_)
  have hf := nm_of ex1 hf
  refine lv_istore_n (lv' := [(2, .int x1), (0, .ref (a this)), (1, .int v1), (3, .int v3)]) hx hb dX5_waysTo_37 rfl hl (by decide) rfl (fun ls hl => ?_)
  obtain ⟨x2, ex2⟩ : ∃ y : Int32, y = v3 + (1 : Int32) := ⟨_, rfl⟩
  have hf := nm_of ex2 hf
  refine lv_iinc (v := x2) (lv' := [(3, .int x2), (2, .int x1), (0, .ref (a this)), (1, .int v1)]) hx hb dX5_waysTo_38 hl (k := 3) rfl (by rw [ex2]; rfl) (by decide) rfl (fun ls hl => ?_)
  refine lv_goto (tgt := 4) hx hb dX5_waysTo_41 (by decide) ?_
  exact hk4 _ _ _ _ _ hf hG (lv_sub hl [2, 3, 1, 0] rfl)
set_option maxHeartbeats 4000000 in
set_option maxRecDepth 100000 in
theorem w_X5_waysTo_L4 {l : Launch} {dC : Nat → ClassId} {dI : Nat → Nat → Nat} {cy : Nat → ClassId} {a : Nat → Nat} {p : Program} {e : Env} {s : State} {m : MethodId} {args : Array Value} {below : List Frame} {meth : Method} {c : Code} (X : XU dC dI cy a p s m c args meth cX5_waysTo 4 RX5 (some .int)) {M : Mem} {this : Nat} (hT : K5 this) {v1 : Int32} {o : Int32} : ∀ (n : Nat) (v2 : Int32) (v3 : Int32) (H : Heap) (locs : List Loc) (ls : Array Slot), f_X5_waysTo_L4 M this v1 n v2 v3 = some o → GU dC dI cy a s.heap M H locs → lv_has ls 4 [(0, .ref (a this)), (1, .int v1), (2, .int v2), (3, .int v3)] → W p l e ({ frames := 1, cells := 0, slots := 0, locals := 21 } : Room) s m args below meth c H locs 0 0 (MQ below (QUi dC dI cy a o M) args s 0 0 (AU a)) (F0 m 4 ls []) := by
  have hx := X.1.1
  have hb := X.1.2.1
  have hown := X.1.2.2.2.1
  have hts := X.1.2.2.2.2
  intro n
  induction n with
  | zero => intro v2 v3 H locs ls hf; cases hf
  | succ n ih =>
    intro v2 v3 H locs ls hf hG hl
    rw [f_X5_waysTo_L4] at hf
    refine lv_iload_n hx hb dX5_waysTo_4 rfl (lv_at hl 3 rfl) ?_
    refine lv_aload_n hx hb dX5_waysTo_5 rfl (lv_at hl 0 rfl) ?_
    refine gf_X5_7 X hG hT dX5_waysTo_6 ?_
    refine lv_iconst (v := 1) hx hb dX5_waysTo_9 (by decide) ?_
    obtain ⟨hi1, hf⟩ := ck_some hf
    refine mw_iald X hG hT.2.1 hi1 dX5_waysTo_10 ?_
    refine lv_icmp_ge (tgt := 44) hx hb dX5_waysTo_11 (by decide) (fun c2 => ?_) (fun c2 => ?_)
    · have hf := itep c2 hf
      refine lv_iload_n hx hb dX5_waysTo_44 rfl (lv_at hl 2 rfl) ?_
      obtain rfl := Option.some.inj hf
      exact mw_iret X hG dX5_waysTo_45
    · have hf := iten c2 hf
      refine lv_iload_n hx hb dX5_waysTo_14 rfl (lv_at hl 2 rfl) ?_
      refine lv_aload_n hx hb dX5_waysTo_15 rfl (lv_at hl 0 rfl) ?_
      refine gf_X5_7 X hG hT dX5_waysTo_16 ?_
      refine lv_iconst (v := 0) hx hb dX5_waysTo_19 (by decide) ?_
      refine lv_iload_n hx hb dX5_waysTo_20 rfl (lv_at hl 3 rfl) ?_
      obtain ⟨x3, hr4, hf⟩ := bd_some hf
      refine mw_callSi (rest := [.ref (a (this + 1)), .int v2]) X hG (c_X5_at l dC dI cy a X.2.2.1  M (0 : Int32) v3 hr4) (mw_cwS X 2 g_X5_34 hd_X5_at ⟨rfl, rfl⟩ ⟨Nat.le_of_ble_eq_true rfl, Nat.le_of_ble_eq_true rfl⟩) rfl hl.1 rfl (Nat.le_of_ble_eq_true rfl) dX5_waysTo_21 (fun H locs hG => ?_)
      refine lv_iconst (v := 1) hx hb dX5_waysTo_24 (by decide) ?_
      refine lv_iadd hx hb dX5_waysTo_25 ?_
      obtain ⟨hi5, hf⟩ := ck_some hf
      refine mw_iald X hG hT.2.1 hi5 dX5_waysTo_26 ?_
      refine lv_iload_n hx hb dX5_waysTo_27 rfl (lv_at hl 1 rfl) ?_
      refine lv_icmp_ne (tgt := 35) hx hb dX5_waysTo_28 (by decide) (fun c6 => ?_) (fun c6 => ?_)
      · have hf := iten c6 hf
        refine lv_iconst (v := 0) hx hb dX5_waysTo_35 (by decide) ?_
        exact w_X5_waysTo_L36 X hT ih hf hG (lv_sub hl [0, 1, 3] rfl)
      · have hf := itep c6 hf
        refine lv_iconst (v := 1) hx hb dX5_waysTo_31 (by decide) ?_
        refine lv_goto (tgt := 36) hx hb dX5_waysTo_32 (by decide) ?_
        exact w_X5_waysTo_L36 X hT ih hf hG (lv_sub hl [0, 1, 3] rfl)
set_option maxHeartbeats 4000000 in
set_option maxRecDepth 100000 in
theorem c_X5_waysTo (l : Launch) (dC : Nat → ClassId) (dI : Nat → Nat → Nat) (cy : Nat → ClassId) (a : Nat → Nat) (ha : injU a) (this : Nat) (hT : K5 this) (M : Mem) (v1 : Int32) {o : Int32} (hf : f_X5_waysTo M this v1 = some o) : Met l yX5_waysTo (wsU yX5_waysTo cX5_waysTo 4 (some .int)) ({ frames := 1, cells := 0, slots := 0, locals := 21 } : Room) (PU dC dI cy a [.ref (a this), .int v1] M) (QUi dC dI cy a o M) 0 0 (AU a) := by
  refine mw_met (by decide) ha (Nat.le_of_ble_eq_true rfl) ?_
  intro p e s m below meth c ls X hG hl
  have hl : lv_has ls 4 [(0, .ref (a this)), (1, .int v1)] := hl
  have X : XU dC dI cy a p s m c [.ref (a this), .int v1].toArray meth cX5_waysTo 4 RX5 (some .int) := X
  have hx := X.1.1
  have hb := X.1.2.1
  have hown := X.1.2.2.2.1
  have hts := X.1.2.2.2.2
  rw [f_X5_waysTo] at hf
  refine lv_iconst (v := 0) hx hb dX5_waysTo_0 (by decide) ?_
  refine lv_istore_n (lv' := [(2, .int (0 : Int32)), (0, .ref (a this)), (1, .int v1)]) hx hb dX5_waysTo_1 rfl hl (by decide) rfl (fun ls hl => ?_)
  refine lv_iconst (v := 0) hx hb dX5_waysTo_2 (by decide) ?_
  refine lv_istore_n (lv' := [(3, .int (0 : Int32)), (2, .int (0 : Int32)), (0, .ref (a this)), (1, .int v1)]) hx hb dX5_waysTo_3 rfl hl (by decide) rfl (fun ls hl => ?_)
  exact w_X5_waysTo_L4 X hT 1000 _ _ _ _ _ hf hG (lv_sub hl [2, 3, 1, 0] rfl)
/-! X5_firstValue -/
set_option maxHeartbeats 4000000 in
set_option maxRecDepth 100000 in
theorem w_X5_firstValue_L24 {l : Launch} {dC : Nat → ClassId} {dI : Nat → Nat → Nat} {cy : Nat → ClassId} {a : Nat → Nat} {p : Program} {e : Env} {s : State} {m : MethodId} {args : Array Value} {below : List Frame} {meth : Method} {c : Code} (X : XU dC dI cy a p s m c args meth cX5_firstValue 3 RX5 (some .int)) {M : Mem} {this : Nat} (hT : K5 this) {s0 : Int32} {o : Int32} {H : Heap} {locs : List Loc} {ls : Array Slot} (hf : f_X5_firstValue_L24 M this s0 = some o) (hG : GU dC dI cy a s.heap M H locs) (hl : lv_has ls 3 [(0, .ref (a this))]) : W p l e ({ frames := 2, cells := 0, slots := 0, locals := 47 } : Room) s m args below meth c H locs 0 0 (MQ below (QUi dC dI cy a o M) args s 0 0 (AU a)) (F0 m 24 ls [.int s0]) := by
  have hx := X.1.1
  have hb := X.1.2.1
  have hown := X.1.2.2.2.1
  have hts := X.1.2.2.2.2
  rw [f_X5_firstValue_L24] at hf
  obtain rfl := Option.some.inj hf
  exact mw_iret X hG dX5_firstValue_24
set_option maxHeartbeats 4000000 in
set_option maxRecDepth 100000 in
theorem c_X5_firstValue (l : Launch) (dC : Nat → ClassId) (dI : Nat → Nat → Nat) (cy : Nat → ClassId) (a : Nat → Nat) (ha : injU a) (this : Nat) (hT : K5 this) (M : Mem) (v1 : Int32) {o : Int32} (hf : f_X5_firstValue M this v1 = some o) : Met l yX5_firstValue (wsU yX5_firstValue cX5_firstValue 3 (some .int)) ({ frames := 2, cells := 0, slots := 0, locals := 47 } : Room) (PU dC dI cy a [.ref (a this), .int v1] M) (QUi dC dI cy a o M) 0 0 (AU a) := by
  refine mw_met (by decide) ha (Nat.le_of_ble_eq_true rfl) ?_
  intro p e s m below meth c ls X hG hl
  have hl : lv_has ls 3 [(0, .ref (a this)), (1, .int v1)] := hl
  have X : XU dC dI cy a p s m c [.ref (a this), .int v1].toArray meth cX5_firstValue 3 RX5 (some .int) := X
  have hx := X.1.1
  have hb := X.1.2.1
  have hown := X.1.2.2.2.1
  have hts := X.1.2.2.2.2
  rw [f_X5_firstValue] at hf
  refine lv_aload_n hx hb dX5_firstValue_0 rfl (lv_at hl 0 rfl) ?_
  refine lv_iconst (v := 0) hx hb dX5_firstValue_1 (by decide) ?_
  refine lv_iload_n hx hb dX5_firstValue_2 rfl (lv_at hl 1 rfl) ?_
  obtain ⟨x1, hr2, hf⟩ := bd_some hf
  refine mw_callVi (rest := []) X hG hT.1 rfl (c_X5_firstOf l dC dI cy a X.2.2.1 this hT M (0 : Int32) v1 hr2) (mw_cwV X 2 g_X5_88 hd_X5_firstOf ⟨rfl, rfl⟩ ⟨Nat.le_of_ble_eq_true rfl, Nat.le_of_ble_eq_true rfl⟩) rfl hl.1 rfl (Nat.le_of_ble_eq_true rfl) dX5_firstValue_3 (fun H locs hG => ?_)
  refine lv_istore_n (lv' := [(2, .int x1), (0, .ref (a this)), (1, .int v1)]) hx hb dX5_firstValue_6 rfl hl (by decide) rfl (fun ls hl => ?_)
  refine lv_iload_n hx hb dX5_firstValue_7 rfl (lv_at hl 0 rfl) ?_
  refine lv_iconst (v := -1) hx hb dX5_firstValue_8 (by decide) ?_
  refine lv_icmp_ne (tgt := 16) hx hb dX5_firstValue_9 (by decide) (fun c3 => ?_) (fun c3 => ?_)
  · have hf := iten c3 hf
    refine lv_aload_n hx hb dX5_firstValue_16 rfl (lv_at hl 1 rfl) ?_
    refine gf_X5_7 X hG hT dX5_firstValue_17 ?_
    refine lv_iload_n hx hb dX5_firstValue_20 rfl (lv_at hl 0 rfl) ?_
    refine lv_iconst (v := 3) hx hb dX5_firstValue_21 (by decide) ?_
    refine lv_iadd hx hb dX5_firstValue_22 ?_
    obtain ⟨hi4, hf⟩ := ck_some hf
    refine mw_iald X hG hT.2.1 hi4 dX5_firstValue_23 ?_
    exact w_X5_firstValue_L24 X hT hf hG (lv_sub hl [1] rfl)
  · have hf := itep c3 hf
    refine lv_iconst (v := -1) hx hb dX5_firstValue_12 (by decide) ?_
    refine lv_goto (tgt := 24) hx hb dX5_firstValue_13 (by decide) ?_
    exact w_X5_firstValue_L24 X hT hf hG (lv_sub hl [1] rfl)
/-! X5_part -/
set_option maxHeartbeats 4000000 in
set_option maxRecDepth 100000 in
theorem w_X5_part_L141 {l : Launch} {dC : Nat → ClassId} {dI : Nat → Nat → Nat} {cy : Nat → ClassId} {a : Nat → Nat} {p : Program} {e : Env} {s : State} {m : MethodId} {args : Array Value} {below : List Frame} {meth : Method} {c : Code} (X : XU dC dI cy a p s m c args meth cX5_part 3 RX5 (some .int)) {M : Mem} {this : Nat} (hT : K5 this) {s0 : Int32} {o : Int32} {H : Heap} {locs : List Loc} {ls : Array Slot} (hf : f_X5_part_L141 M this s0 = some o) (hG : GU dC dI cy a s.heap M H locs) (hl : lv_has ls 3 [(0, .ref (a this))]) : W p l e ({ frames := 5, cells := 0, slots := 0, locals := 112 } : Room) s m args below meth c H locs 0 0 (MQ below (QUi dC dI cy a o M) args s 0 0 (AU a)) (F0 m 141 ls [.int s0]) := by
  have hx := X.1.1
  have hb := X.1.2.1
  have hown := X.1.2.2.2.1
  have hts := X.1.2.2.2.2
  rw [f_X5_part_L141] at hf
  obtain rfl := Option.some.inj hf
  exact mw_iret X hG dX5_part_141
set_option maxHeartbeats 4000000 in
set_option maxRecDepth 100000 in
theorem c_X5_part (l : Launch) (dC : Nat → ClassId) (dI : Nat → Nat → Nat) (cy : Nat → ClassId) (a : Nat → Nat) (ha : injU a) (this : Nat) (hT : K5 this) (M : Mem) (v1 : Int32) (v2 : Int32) {o : Int32} (hf : f_X5_part M this v1 v2 = some o) : Met l yX5_part (wsU yX5_part cX5_part 3 (some .int)) ({ frames := 5, cells := 0, slots := 0, locals := 112 } : Room) (PU dC dI cy a [.ref (a this), .int v1, .int v2] M) (QUi dC dI cy a o M) 0 0 (AU a) := by
  refine mw_met (by decide) ha (Nat.le_of_ble_eq_true rfl) ?_
  intro p e s m below meth c ls X hG hl
  have hl : lv_has ls 3 [(0, .ref (a this)), (1, .int v1), (2, .int v2)] := hl
  have X : XU dC dI cy a p s m c [.ref (a this), .int v1, .int v2].toArray meth cX5_part 3 RX5 (some .int) := X
  have hx := X.1.1
  have hb := X.1.2.1
  have hown := X.1.2.2.2.1
  have hts := X.1.2.2.2.2
  rw [f_X5_part] at hf
  refine lv_aload_n hx hb dX5_part_0 rfl (lv_at hl 0 rfl) ?_
  refine lv_iload_n hx hb dX5_part_1 rfl (lv_at hl 1 rfl) ?_
  obtain ⟨x1, hr2, hf⟩ := bd_some hf
  refine mw_callVi (rest := []) X hG hT.1 rfl (c_X5_isPart l dC dI cy a X.2.2.1 this hT M v1 hr2) (mw_cwV X 1 g_X5_38 hd_X5_isPart ⟨rfl, rfl⟩ ⟨Nat.le_of_ble_eq_true rfl, Nat.le_of_ble_eq_true rfl⟩) rfl hl.1 rfl (Nat.le_of_ble_eq_true rfl) dX5_part_2 (fun H locs hG => ?_)
  refine lv_if_ne (tgt := 11) hx hb dX5_part_5 (by decide) (fun c3 => ?_) (fun c3 => ?_)
  · have hf := iten c3 hf
    refine lv_iload_n hx hb dX5_part_11 rfl (lv_at hl 2 rfl) ?_
    by_cases c4 : v2 = (0 : Int32)
    · have hf := itep c4 hf
      refine lv_tableIn (off := 60) (tgt := 72) hx hb dX5_part_12 (by rw [c4]; decide) (by rw [c4]; decide) (by rw [c4]; rfl) (by decide) ?_
      refine lv_aload_n hx hb dX5_part_72 rfl (lv_at hl 0 rfl) ?_
      refine gf_X5_7 X hG hT dX5_part_73 ?_
      refine lv_bipush (v := 10) hx hb dX5_part_76 (by decide) ?_
      refine lv_iload_n hx hb dX5_part_78 rfl (lv_at hl 1 rfl) ?_
      refine lv_iadd hx hb dX5_part_79 ?_
      obtain ⟨hi5, hf⟩ := ck_some hf
      refine mw_iald X hG hT.2.1 hi5 dX5_part_80 ?_
      obtain rfl := Option.some.inj hf
      exact mw_iret X hG dX5_part_81
    · have hf := iten c4 hf
      by_cases c6 : v2 = (1 : Int32)
      · have hf := itep c6 hf
        refine lv_tableIn (off := 70) (tgt := 82) hx hb dX5_part_12 (by rw [c6]; decide) (by rw [c6]; decide) (by rw [c6]; rfl) (by decide) ?_
        refine lv_aload_n hx hb dX5_part_82 rfl (lv_at hl 0 rfl) ?_
        refine gf_X5_7 X hG hT dX5_part_83 ?_
        refine lv_bipush (v := 16) hx hb dX5_part_86 (by decide) ?_
        refine lv_iload_n hx hb dX5_part_88 rfl (lv_at hl 1 rfl) ?_
        refine lv_iadd hx hb dX5_part_89 ?_
        obtain ⟨hi7, hf⟩ := ck_some hf
        refine mw_iald X hG hT.2.1 hi7 dX5_part_90 ?_
        obtain rfl := Option.some.inj hf
        exact mw_iret X hG dX5_part_91
      · have hf := iten c6 hf
        by_cases c8 : v2 = (2 : Int32)
        · have hf := itep c8 hf
          refine lv_tableIn (off := 80) (tgt := 92) hx hb dX5_part_12 (by rw [c8]; decide) (by rw [c8]; decide) (by rw [c8]; rfl) (by decide) ?_
          refine lv_aload_n hx hb dX5_part_92 rfl (lv_at hl 0 rfl) ?_
          refine gf_X5_7 X hG hT dX5_part_93 ?_
          refine lv_bipush (v := 22) hx hb dX5_part_96 (by decide) ?_
          refine lv_iload_n hx hb dX5_part_98 rfl (lv_at hl 1 rfl) ?_
          refine lv_iadd hx hb dX5_part_99 ?_
          obtain ⟨hi9, hf⟩ := ck_some hf
          refine mw_iald X hG hT.2.1 hi9 dX5_part_100 ?_
          obtain rfl := Option.some.inj hf
          exact mw_iret X hG dX5_part_101
        · have hf := iten c8 hf
          by_cases c10 : v2 = (3 : Int32)
          · have hf := itep c10 hf
            refine lv_tableIn (off := 90) (tgt := 102) hx hb dX5_part_12 (by rw [c10]; decide) (by rw [c10]; decide) (by rw [c10]; rfl) (by decide) ?_
            refine lv_aload_n hx hb dX5_part_102 rfl (lv_at hl 0 rfl) ?_
            refine lv_iload_n hx hb dX5_part_103 rfl (lv_at hl 1 rfl) ?_
            obtain ⟨x11, hr12, hf⟩ := bd_some hf
            refine mw_callVi (rest := []) X hG hT.1 rfl (c_X5_safe l dC dI cy a X.2.2.1 this hT M v1 hr12) (mw_cwV X 1 g_X5_98 hd_X5_safe ⟨rfl, rfl⟩ ⟨Nat.le_of_ble_eq_true rfl, Nat.le_of_ble_eq_true rfl⟩) rfl hl.1 rfl (Nat.le_of_ble_eq_true rfl) dX5_part_104 (fun H locs hG => ?_)
            obtain rfl := Option.some.inj hf
            exact mw_iret X hG dX5_part_107
          · have hf := iten c10 hf
            by_cases c13 : v2 = (4 : Int32)
            · have hf := itep c13 hf
              refine lv_tableIn (off := 96) (tgt := 108) hx hb dX5_part_12 (by rw [c13]; decide) (by rw [c13]; decide) (by rw [c13]; rfl) (by decide) ?_
              refine lv_aload_n hx hb dX5_part_108 rfl (lv_at hl 0 rfl) ?_
              refine lv_iconst (v := 0) hx hb dX5_part_109 (by decide) ?_
              refine lv_iload_n hx hb dX5_part_110 rfl (lv_at hl 1 rfl) ?_
              obtain ⟨x14, hr15, hf⟩ := bd_some hf
              refine mw_callVi (rest := []) X hG hT.1 rfl (c_X5_waitFor l dC dI cy a X.2.2.1 this hT M (0 : Int32) v1 hr15) (mw_cwV X 2 g_X5_60 hd_X5_waitFor ⟨rfl, rfl⟩ ⟨Nat.le_of_ble_eq_true rfl, Nat.le_of_ble_eq_true rfl⟩) rfl hl.1 rfl (Nat.le_of_ble_eq_true rfl) dX5_part_111 (fun H locs hG => ?_)
              obtain rfl := Option.some.inj hf
              exact mw_iret X hG dX5_part_114
            · have hf := iten c13 hf
              by_cases c16 : v2 = (5 : Int32)
              · have hf := itep c16 hf
                refine lv_tableIn (off := 103) (tgt := 115) hx hb dX5_part_12 (by rw [c16]; decide) (by rw [c16]; decide) (by rw [c16]; rfl) (by decide) ?_
                refine lv_aload_n hx hb dX5_part_115 rfl (lv_at hl 0 rfl) ?_
                refine lv_iconst (v := 0) hx hb dX5_part_116 (by decide) ?_
                refine lv_iload_n hx hb dX5_part_117 rfl (lv_at hl 1 rfl) ?_
                obtain ⟨x17, hr18, hf⟩ := bd_some hf
                refine mw_callVi (rest := []) X hG hT.1 rfl (c_X5_firstTime l dC dI cy a X.2.2.1 this hT M (0 : Int32) v1 hr18) (mw_cwV X 2 g_X5_95 hd_X5_firstTime ⟨rfl, rfl⟩ ⟨Nat.le_of_ble_eq_true rfl, Nat.le_of_ble_eq_true rfl⟩) rfl hl.1 rfl (Nat.le_of_ble_eq_true rfl) dX5_part_118 (fun H locs hG => ?_)
                obtain rfl := Option.some.inj hf
                exact mw_iret X hG dX5_part_121
              · have hf := iten c16 hf
                by_cases c19 : v2 = (6 : Int32)
                · have hf := itep c19 hf
                  refine lv_tableIn (off := 110) (tgt := 122) hx hb dX5_part_12 (by rw [c19]; decide) (by rw [c19]; decide) (by rw [c19]; rfl) (by decide) ?_
                  refine lv_aload_n hx hb dX5_part_122 rfl (lv_at hl 0 rfl) ?_
                  refine lv_iload_n hx hb dX5_part_123 rfl (lv_at hl 1 rfl) ?_
                  obtain ⟨x20, hr21, hf⟩ := bd_some hf
                  refine mw_callVi (rest := []) X hG hT.1 rfl (c_X5_firstValue l dC dI cy a X.2.2.1 this hT M v1 hr21) (mw_cwV X 1 g_X5_143 hd_X5_firstValue ⟨rfl, rfl⟩ ⟨Nat.le_of_ble_eq_true rfl, Nat.le_of_ble_eq_true rfl⟩) rfl hl.1 rfl (Nat.le_of_ble_eq_true rfl) dX5_part_124 (fun H locs hG => ?_)
                  obtain rfl := Option.some.inj hf
                  exact mw_iret X hG dX5_part_127
                · have hf := iten c19 hf
                  by_cases c22 : v2 = (7 : Int32)
                  · have hf := itep c22 hf
                    refine lv_tableIn (off := 116) (tgt := 128) hx hb dX5_part_12 (by rw [c22]; decide) (by rw [c22]; decide) (by rw [c22]; rfl) (by decide) ?_
                    refine lv_aload_n hx hb dX5_part_128 rfl (lv_at hl 0 rfl) ?_
                    refine lv_iload_n hx hb dX5_part_129 rfl (lv_at hl 1 rfl) ?_
                    obtain ⟨x23, hr24, hf⟩ := bd_some hf
                    refine mw_callVi (rest := []) X hG hT.1 rfl (c_X5_may l dC dI cy a X.2.2.1 this hT M v1 hr24) (mw_cwV X 1 g_X5_108 hd_X5_may ⟨rfl, rfl⟩ ⟨Nat.le_of_ble_eq_true rfl, Nat.le_of_ble_eq_true rfl⟩) rfl hl.1 rfl (Nat.le_of_ble_eq_true rfl) dX5_part_130 (fun H locs hG => ?_)
                    refine lv_if_eq (tgt := 140) hx hb dX5_part_133 (by decide) (fun c25 => ?_) (fun c25 => ?_)
                    · have hf := itep c25 hf
                      refine lv_iconst (v := 0) hx hb dX5_part_140 (by decide) ?_
                      exact w_X5_part_L141 X hT hf hG (lv_sub hl [0] rfl)
                    · have hf := iten c25 hf
                      refine lv_iconst (v := 1) hx hb dX5_part_136 (by decide) ?_
                      refine lv_goto (tgt := 141) hx hb dX5_part_137 (by decide) ?_
                      exact w_X5_part_L141 X hT hf hG (lv_sub hl [0] rfl)
                  · have hf := iten c22 hf
                    by_cases c26 : v2 = (8 : Int32)
                    · have hf := itep c26 hf
                      refine lv_tableIn (off := 130) (tgt := 142) hx hb dX5_part_12 (by rw [c26]; decide) (by rw [c26]; decide) (by rw [c26]; rfl) (by decide) ?_
                      refine lv_aload_n hx hb dX5_part_142 rfl (lv_at hl 0 rfl) ?_
                      refine lv_iload_n hx hb dX5_part_143 rfl (lv_at hl 1 rfl) ?_
                      obtain ⟨x27, hr28, hf⟩ := bd_some hf
                      refine mw_callVi (rest := []) X hG hT.1 rfl (c_X5_waitsBy l dC dI cy a X.2.2.1 this hT M v1 hr28) (mw_cwV X 1 g_X5_146 hd_X5_waitsBy ⟨rfl, rfl⟩ ⟨Nat.le_of_ble_eq_true rfl, Nat.le_of_ble_eq_true rfl⟩) rfl hl.1 rfl (Nat.le_of_ble_eq_true rfl) dX5_part_144 (fun H locs hG => ?_)
                      obtain rfl := Option.some.inj hf
                      exact mw_iret X hG dX5_part_147
                    · have hf := iten c26 hf
                      by_cases c29 : v2 = (9 : Int32)
                      · have hf := itep c29 hf
                        refine lv_tableIn (off := 136) (tgt := 148) hx hb dX5_part_12 (by rw [c29]; decide) (by rw [c29]; decide) (by rw [c29]; rfl) (by decide) ?_
                        refine lv_aload_n hx hb dX5_part_148 rfl (lv_at hl 0 rfl) ?_
                        refine lv_iconst (v := 0) hx hb dX5_part_149 (by decide) ?_
                        refine lv_iload_n hx hb dX5_part_150 rfl (lv_at hl 1 rfl) ?_
                        obtain ⟨x30, hr31, hf⟩ := bd_some hf
                        refine mw_callVi (rest := []) X hG hT.1 rfl (c_X5_outOf l dC dI cy a X.2.2.1 this hT M (0 : Int32) v1 hr31) (mw_cwV X 2 g_X5_102 hd_X5_outOf ⟨rfl, rfl⟩ ⟨Nat.le_of_ble_eq_true rfl, Nat.le_of_ble_eq_true rfl⟩) rfl hl.1 rfl (Nat.le_of_ble_eq_true rfl) dX5_part_151 (fun H locs hG => ?_)
                        obtain rfl := Option.some.inj hf
                        exact mw_iret X hG dX5_part_154
                      · have hf := iten c29 hf
                        by_cases c32 : v2 = (10 : Int32)
                        · have hf := itep c32 hf
                          refine lv_tableIn (off := 143) (tgt := 155) hx hb dX5_part_12 (by rw [c32]; decide) (by rw [c32]; decide) (by rw [c32]; rfl) (by decide) ?_
                          refine lv_aload_n hx hb dX5_part_155 rfl (lv_at hl 0 rfl) ?_
                          refine lv_iload_n hx hb dX5_part_156 rfl (lv_at hl 1 rfl) ?_
                          obtain ⟨x33, hr34, hf⟩ := bd_some hf
                          refine mw_callVi (rest := []) X hG hT.1 rfl (c_X5_waysTo l dC dI cy a X.2.2.1 this hT M v1 hr34) (mw_cwV X 1 g_X5_149 hd_X5_waysTo ⟨rfl, rfl⟩ ⟨Nat.le_of_ble_eq_true rfl, Nat.le_of_ble_eq_true rfl⟩) rfl hl.1 rfl (Nat.le_of_ble_eq_true rfl) dX5_part_157 (fun H locs hG => ?_)
                          obtain rfl := Option.some.inj hf
                          exact mw_iret X hG dX5_part_160
                        · have hf := iten c32 hf
                          refine lv_tableOut (tgt := 161) hx hb dX5_part_12 (by have q0 : v2.toInt ≠ 0 := fun e => c4 (Int32.toInt_inj.mp (e.trans (by decide))); have q1 : v2.toInt ≠ 1 := fun e => c6 (Int32.toInt_inj.mp (e.trans (by decide))); have q2 : v2.toInt ≠ 2 := fun e => c8 (Int32.toInt_inj.mp (e.trans (by decide))); have q3 : v2.toInt ≠ 3 := fun e => c10 (Int32.toInt_inj.mp (e.trans (by decide))); have q4 : v2.toInt ≠ 4 := fun e => c13 (Int32.toInt_inj.mp (e.trans (by decide))); have q5 : v2.toInt ≠ 5 := fun e => c16 (Int32.toInt_inj.mp (e.trans (by decide))); have q6 : v2.toInt ≠ 6 := fun e => c19 (Int32.toInt_inj.mp (e.trans (by decide))); have q7 : v2.toInt ≠ 7 := fun e => c22 (Int32.toInt_inj.mp (e.trans (by decide))); have q8 : v2.toInt ≠ 8 := fun e => c26 (Int32.toInt_inj.mp (e.trans (by decide))); have q9 : v2.toInt ≠ 9 := fun e => c29 (Int32.toInt_inj.mp (e.trans (by decide))); have q10 : v2.toInt ≠ 10 := fun e => c32 (Int32.toInt_inj.mp (e.trans (by decide))); omega) (by decide) ?_
                          refine lv_ldc (v := -1000000002) hx hb hown (hts _ wd_ct_X5_29) dX5_part_161 ?_
                          obtain rfl := Option.some.inj hf
                          exact mw_iret X hG dX5_part_163
  · have hf := itep c3 hf
    refine lv_ldc (v := -1000000001) hx hb hown (hts _ wd_ct_X5_42) dX5_part_8 ?_
    obtain rfl := Option.some.inj hf
    exact mw_iret X hG dX5_part_10
/-! X5_channelOf -/
set_option maxHeartbeats 4000000 in
set_option maxRecDepth 100000 in
theorem w_X5_channelOf_L40 {l : Launch} {dC : Nat → ClassId} {dI : Nat → Nat → Nat} {cy : Nat → ClassId} {a : Nat → Nat} {p : Program} {e : Env} {s : State} {m : MethodId} {args : Array Value} {below : List Frame} {meth : Method} {c : Code} (X : XU dC dI cy a p s m c args meth cX5_channelOf 3 RX5 (some .int)) {M : Mem} {this : Nat} (hT : K5 this) {s0 : Int32} {o : Int32} {H : Heap} {locs : List Loc} {ls : Array Slot} (hf : f_X5_channelOf_L40 M this s0 = some o) (hG : GU dC dI cy a s.heap M H locs) (hl : lv_has ls 3 [(0, .ref (a this))]) : W p l e ({ frames := 2, cells := 0, slots := 0, locals := 46 } : Room) s m args below meth c H locs 0 0 (MQ below (QUi dC dI cy a o M) args s 0 0 (AU a)) (F0 m 40 ls [.int s0]) := by
  have hx := X.1.1
  have hb := X.1.2.1
  have hown := X.1.2.2.2.1
  have hts := X.1.2.2.2.2
  rw [f_X5_channelOf_L40] at hf
  obtain rfl := Option.some.inj hf
  exact mw_iret X hG dX5_channelOf_40
set_option maxHeartbeats 4000000 in
set_option maxRecDepth 100000 in
theorem c_X5_channelOf (l : Launch) (dC : Nat → ClassId) (dI : Nat → Nat → Nat) (cy : Nat → ClassId) (a : Nat → Nat) (ha : injU a) (this : Nat) (hT : K5 this) (M : Mem) (v1 : Int32) (v2 : Int32) {o : Int32} (hf : f_X5_channelOf M this v1 v2 = some o) : Met l yX5_channelOf (wsU yX5_channelOf cX5_channelOf 3 (some .int)) ({ frames := 2, cells := 0, slots := 0, locals := 46 } : Room) (PU dC dI cy a [.ref (a this), .int v1, .int v2] M) (QUi dC dI cy a o M) 0 0 (AU a) := by
  refine mw_met (by decide) ha (Nat.le_of_ble_eq_true rfl) ?_
  intro p e s m below meth c ls X hG hl
  have hl : lv_has ls 3 [(0, .ref (a this)), (1, .int v1), (2, .int v2)] := hl
  have X : XU dC dI cy a p s m c [.ref (a this), .int v1, .int v2].toArray meth cX5_channelOf 3 RX5 (some .int) := X
  have hx := X.1.1
  have hb := X.1.2.1
  have hown := X.1.2.2.2.1
  have hts := X.1.2.2.2.2
  rw [f_X5_channelOf] at hf
  refine lv_aload_n hx hb dX5_channelOf_0 rfl (lv_at hl 0 rfl) ?_
  refine lv_iload_n hx hb dX5_channelOf_1 rfl (lv_at hl 1 rfl) ?_
  obtain ⟨x1, hr2, hf⟩ := bd_some hf
  refine mw_callVi (rest := []) X hG hT.1 rfl (c_X5_isChannel l dC dI cy a X.2.2.1 this hT M v1 hr2) (mw_cwV X 1 g_X5_152 hd_X5_isChannel ⟨rfl, rfl⟩ ⟨Nat.le_of_ble_eq_true rfl, Nat.le_of_ble_eq_true rfl⟩) rfl hl.1 rfl (Nat.le_of_ble_eq_true rfl) dX5_channelOf_2 (fun H locs hG => ?_)
  refine lv_if_ne (tgt := 11) hx hb dX5_channelOf_5 (by decide) (fun c3 => ?_) (fun c3 => ?_)
  · have hf := iten c3 hf
    refine lv_iload_n hx hb dX5_channelOf_11 rfl (lv_at hl 2 rfl) ?_
    refine lv_i2l (v := v2.toInt64) hx hb dX5_channelOf_12 rfl ?_
    refine lv_lconst (v := 0) hx hb dX5_channelOf_13 (by decide) ?_
    refine lv_ldc2 (v := 6) hx hb hown (hts _ wd_cl_X5_27) dX5_channelOf_14 ?_
    obtain ⟨x4, hr5, hf⟩ := bd_some hf
    refine mw_callSi (rest := []) X hG (c_X5_in l dC dI cy a X.2.2.1  M (v2.toInt64) (0 : Int64) (6 : Int64) hr5) (mw_cwS X 3 g_X5_23 hd_X5_in ⟨rfl, rfl⟩ ⟨Nat.le_of_ble_eq_true rfl, Nat.le_of_ble_eq_true rfl⟩) rfl hl.1 rfl (Nat.le_of_ble_eq_true rfl) dX5_channelOf_17 (fun H locs hG => ?_)
    refine lv_if_eq (tgt := 38) hx hb dX5_channelOf_20 (by decide) (fun c6 => ?_) (fun c6 => ?_)
    · have hf := itep c6 hf
      refine lv_ldc (v := -1000000002) hx hb hown (hts _ wd_ct_X5_29) dX5_channelOf_38 ?_
      exact w_X5_channelOf_L40 X hT hf hG (lv_sub hl [0] rfl)
    · have hf := iten c6 hf
      refine lv_aload_n hx hb dX5_channelOf_23 rfl (lv_at hl 0 rfl) ?_
      refine gf_X5_7 X hG hT dX5_channelOf_24 ?_
      refine lv_iconst (v := 0) hx hb dX5_channelOf_27 (by decide) ?_
      refine lv_iload_n hx hb dX5_channelOf_28 rfl (lv_at hl 1 rfl) ?_
      obtain ⟨x7, hr8, hf⟩ := bd_some hf
      refine mw_callSi (rest := [.ref (a (this + 1))]) X hG (c_X5_at l dC dI cy a X.2.2.1  M (0 : Int32) v1 hr8) (mw_cwS X 2 g_X5_34 hd_X5_at ⟨rfl, rfl⟩ ⟨Nat.le_of_ble_eq_true rfl, Nat.le_of_ble_eq_true rfl⟩) rfl hl.1 rfl (Nat.le_of_ble_eq_true rfl) dX5_channelOf_29 (fun H locs hG => ?_)
      refine lv_iload_n hx hb dX5_channelOf_32 rfl (lv_at hl 2 rfl) ?_
      refine lv_iadd hx hb dX5_channelOf_33 ?_
      obtain ⟨hi9, hf⟩ := ck_some hf
      refine mw_iald X hG hT.2.1 hi9 dX5_channelOf_34 ?_
      refine lv_goto (tgt := 40) hx hb dX5_channelOf_35 (by decide) ?_
      exact w_X5_channelOf_L40 X hT hf hG (lv_sub hl [0] rfl)
  · have hf := itep c3 hf
    refine lv_ldc (v := -1000000001) hx hb hown (hts _ wd_ct_X5_42) dX5_channelOf_8 ?_
    obtain rfl := Option.some.inj hf
    exact mw_iret X hG dX5_channelOf_10
/-! X5_between -/
set_option maxHeartbeats 4000000 in
set_option maxRecDepth 100000 in
theorem w_X5_between_L32 {l : Launch} {dC : Nat → ClassId} {dI : Nat → Nat → Nat} {cy : Nat → ClassId} {a : Nat → Nat} {p : Program} {e : Env} {s : State} {m : MethodId} {args : Array Value} {below : List Frame} {meth : Method} {c : Code} (X : XU dC dI cy a p s m c args meth cX5_between 3 RX5 (some .int)) {M : Mem} {this : Nat} (hT : K5 this) {s0 : Int32} {o : Int32} {H : Heap} {locs : List Loc} {ls : Array Slot} (hf : f_X5_between_L32 M this s0 = some o) (hG : GU dC dI cy a s.heap M H locs) (hl : lv_has ls 3 [(0, .ref (a this))]) : W p l e ({ frames := 2, cells := 0, slots := 0, locals := 46 } : Room) s m args below meth c H locs 0 0 (MQ below (QUi dC dI cy a o M) args s 0 0 (AU a)) (F0 m 32 ls [.int s0]) := by
  have hx := X.1.1
  have hb := X.1.2.1
  have hown := X.1.2.2.2.1
  have hts := X.1.2.2.2.2
  rw [f_X5_between_L32] at hf
  obtain rfl := Option.some.inj hf
  exact mw_iret X hG dX5_between_32
set_option maxHeartbeats 4000000 in
set_option maxRecDepth 100000 in
theorem w_X5_between_L30 {l : Launch} {dC : Nat → ClassId} {dI : Nat → Nat → Nat} {cy : Nat → ClassId} {a : Nat → Nat} {p : Program} {e : Env} {s : State} {m : MethodId} {args : Array Value} {below : List Frame} {meth : Method} {c : Code} (X : XU dC dI cy a p s m c args meth cX5_between 3 RX5 (some .int)) {M : Mem} {this : Nat} (hT : K5 this) {o : Int32} {H : Heap} {locs : List Loc} {ls : Array Slot} (hf : f_X5_between_L30 M this = some o) (hG : GU dC dI cy a s.heap M H locs) (hl : lv_has ls 3 [(0, .ref (a this))]) : W p l e ({ frames := 2, cells := 0, slots := 0, locals := 46 } : Room) s m args below meth c H locs 0 0 (MQ below (QUi dC dI cy a o M) args s 0 0 (AU a)) (F0 m 30 ls []) := by
  have hx := X.1.1
  have hb := X.1.2.1
  have hown := X.1.2.2.2.1
  have hts := X.1.2.2.2.2
  rw [f_X5_between_L30] at hf
  refine lv_ldc (v := -1000000001) hx hb hown (hts _ wd_ct_X5_42) dX5_between_30 ?_
  exact w_X5_between_L32 X hT hf hG (lv_sub hl [0] rfl)
set_option maxHeartbeats 4000000 in
set_option maxRecDepth 100000 in
theorem c_X5_between (l : Launch) (dC : Nat → ClassId) (dI : Nat → Nat → Nat) (cy : Nat → ClassId) (a : Nat → Nat) (ha : injU a) (this : Nat) (hT : K5 this) (M : Mem) (v1 : Int32) (v2 : Int32) {o : Int32} (hf : f_X5_between M this v1 v2 = some o) : Met l yX5_between (wsU yX5_between cX5_between 3 (some .int)) ({ frames := 2, cells := 0, slots := 0, locals := 46 } : Room) (PU dC dI cy a [.ref (a this), .int v1, .int v2] M) (QUi dC dI cy a o M) 0 0 (AU a) := by
  refine mw_met (by decide) ha (Nat.le_of_ble_eq_true rfl) ?_
  intro p e s m below meth c ls X hG hl
  have hl : lv_has ls 3 [(0, .ref (a this)), (1, .int v1), (2, .int v2)] := hl
  have X : XU dC dI cy a p s m c [.ref (a this), .int v1, .int v2].toArray meth cX5_between 3 RX5 (some .int) := X
  have hx := X.1.1
  have hb := X.1.2.1
  have hown := X.1.2.2.2.1
  have hts := X.1.2.2.2.2
  rw [f_X5_between] at hf
  refine lv_aload_n hx hb dX5_between_0 rfl (lv_at hl 0 rfl) ?_
  refine lv_iload_n hx hb dX5_between_1 rfl (lv_at hl 1 rfl) ?_
  obtain ⟨x1, hr2, hf⟩ := bd_some hf
  refine mw_callVi (rest := []) X hG hT.1 rfl (c_X5_isPart l dC dI cy a X.2.2.1 this hT M v1 hr2) (mw_cwV X 1 g_X5_38 hd_X5_isPart ⟨rfl, rfl⟩ ⟨Nat.le_of_ble_eq_true rfl, Nat.le_of_ble_eq_true rfl⟩) rfl hl.1 rfl (Nat.le_of_ble_eq_true rfl) dX5_between_2 (fun H locs hG => ?_)
  refine lv_if_eq (tgt := 30) hx hb dX5_between_5 (by decide) (fun c3 => ?_) (fun c3 => ?_)
  · have hf := itep c3 hf
    exact w_X5_between_L30 X hT hf hG (lv_sub hl [0] rfl)
  · have hf := iten c3 hf
    refine lv_aload_n hx hb dX5_between_8 rfl (lv_at hl 0 rfl) ?_
    refine lv_iload_n hx hb dX5_between_9 rfl (lv_at hl 2 rfl) ?_
    obtain ⟨x4, hr5, hf⟩ := bd_some hf
    refine mw_callVi (rest := []) X hG hT.1 rfl (c_X5_isPart l dC dI cy a X.2.2.1 this hT M v2 hr5) (mw_cwV X 1 g_X5_38 hd_X5_isPart ⟨rfl, rfl⟩ ⟨Nat.le_of_ble_eq_true rfl, Nat.le_of_ble_eq_true rfl⟩) rfl hl.1 rfl (Nat.le_of_ble_eq_true rfl) dX5_between_10 (fun H locs hG => ?_)
    refine lv_if_eq (tgt := 30) hx hb dX5_between_13 (by decide) (fun c6 => ?_) (fun c6 => ?_)
    · have hf := itep c6 hf
      exact w_X5_between_L30 X hT hf hG (lv_sub hl [0] rfl)
    · have hf := iten c6 hf
      refine lv_iload_n hx hb dX5_between_16 rfl (lv_at hl 1 rfl) ?_
      refine lv_iload_n hx hb dX5_between_17 rfl (lv_at hl 2 rfl) ?_
      refine lv_icmp_eq (tgt := 30) hx hb dX5_between_18 (by decide) (fun c7 => ?_) (fun c7 => ?_)
      · have hf := itep c7 hf
        exact w_X5_between_L30 X hT hf hG (lv_sub hl [0] rfl)
      · have hf := iten c7 hf
        refine lv_aload_n hx hb dX5_between_21 rfl (lv_at hl 0 rfl) ?_
        refine lv_iload_n hx hb dX5_between_22 rfl (lv_at hl 1 rfl) ?_
        refine lv_iload_n hx hb dX5_between_23 rfl (lv_at hl 2 rfl) ?_
        obtain ⟨x8, hr9, hf⟩ := bd_some hf
        refine mw_callVi (rest := []) X hG hT.1 rfl (c_X5_wayOf l dC dI cy a X.2.2.1 this hT M v1 v2 hr9) (mw_cwV X 2 g_X5_45 hd_X5_wayOf ⟨rfl, rfl⟩ ⟨Nat.le_of_ble_eq_true rfl, Nat.le_of_ble_eq_true rfl⟩) rfl hl.1 rfl (Nat.le_of_ble_eq_true rfl) dX5_between_24 (fun H locs hG => ?_)
        refine lv_goto (tgt := 32) hx hb dX5_between_27 (by decide) ?_
        exact w_X5_between_L32 X hT hf hG (lv_sub hl [0] rfl)
/-! X5_record -/
set_option maxHeartbeats 4000000 in
set_option maxRecDepth 100000 in
theorem w_X5_record_L16 {l : Launch} {dC : Nat → ClassId} {dI : Nat → Nat → Nat} {cy : Nat → ClassId} {a : Nat → Nat} {p : Program} {e : Env} {s : State} {m : MethodId} {args : Array Value} {below : List Frame} {meth : Method} {c : Code} (X : XU dC dI cy a p s m c args meth cX5_record 3 RX5 (some .int)) {M : Mem} {this : Nat} (hT : K5 this) {o : Int32} {H : Heap} {locs : List Loc} {ls : Array Slot} (hf : f_X5_record_L16 M this = some o) (hG : GU dC dI cy a s.heap M H locs) (hl : lv_has ls 3 [(0, .ref (a this))]) : W p l e ({ frames := 1, cells := 0, slots := 0, locals := 25 } : Room) s m args below meth c H locs 0 0 (MQ below (QUi dC dI cy a o M) args s 0 0 (AU a)) (F0 m 16 ls []) := by
  have hx := X.1.1
  have hb := X.1.2.1
  have hown := X.1.2.2.2.1
  have hts := X.1.2.2.2.2
  rw [f_X5_record_L16] at hf
  refine lv_ldc (v := -1000000002) hx hb hown (hts _ wd_ct_X5_29) dX5_record_16 ?_
  obtain rfl := Option.some.inj hf
  exact mw_iret X hG dX5_record_18
set_option maxHeartbeats 4000000 in
set_option maxRecDepth 100000 in
theorem w_X5_record_L41 {l : Launch} {dC : Nat → ClassId} {dI : Nat → Nat → Nat} {cy : Nat → ClassId} {a : Nat → Nat} {p : Program} {e : Env} {s : State} {m : MethodId} {args : Array Value} {below : List Frame} {meth : Method} {c : Code} (X : XU dC dI cy a p s m c args meth cX5_record 3 RX5 (some .int)) {M : Mem} {this : Nat} (hT : K5 this) {s0 : Int32} {o : Int32} {H : Heap} {locs : List Loc} {ls : Array Slot} (hf : f_X5_record_L41 M this s0 = some o) (hG : GU dC dI cy a s.heap M H locs) (hl : lv_has ls 3 [(0, .ref (a this))]) : W p l e ({ frames := 1, cells := 0, slots := 0, locals := 25 } : Room) s m args below meth c H locs 0 0 (MQ below (QUi dC dI cy a o M) args s 0 0 (AU a)) (F0 m 41 ls [.int s0]) := by
  have hx := X.1.1
  have hb := X.1.2.1
  have hown := X.1.2.2.2.1
  have hts := X.1.2.2.2.2
  rw [f_X5_record_L41] at hf
  obtain rfl := Option.some.inj hf
  exact mw_iret X hG dX5_record_41
set_option maxHeartbeats 4000000 in
set_option maxRecDepth 100000 in
theorem c_X5_record (l : Launch) (dC : Nat → ClassId) (dI : Nat → Nat → Nat) (cy : Nat → ClassId) (a : Nat → Nat) (ha : injU a) (this : Nat) (hT : K5 this) (M : Mem) (v1 : Int32) (v2 : Int32) {o : Int32} (hf : f_X5_record M this v1 v2 = some o) : Met l yX5_record (wsU yX5_record cX5_record 3 (some .int)) ({ frames := 1, cells := 0, slots := 0, locals := 25 } : Room) (PU dC dI cy a [.ref (a this), .int v1, .int v2] M) (QUi dC dI cy a o M) 0 0 (AU a) := by
  refine mw_met (by decide) ha (Nat.le_of_ble_eq_true rfl) ?_
  intro p e s m below meth c ls X hG hl
  have hl : lv_has ls 3 [(0, .ref (a this)), (1, .int v1), (2, .int v2)] := hl
  have X : XU dC dI cy a p s m c [.ref (a this), .int v1, .int v2].toArray meth cX5_record 3 RX5 (some .int) := X
  have hx := X.1.1
  have hb := X.1.2.1
  have hown := X.1.2.2.2.1
  have hts := X.1.2.2.2.2
  rw [f_X5_record] at hf
  refine lv_iload_n hx hb dX5_record_0 rfl (lv_at hl 2 rfl) ?_
  refine lv_i2l (v := v2.toInt64) hx hb dX5_record_1 rfl ?_
  refine lv_lconst (v := 0) hx hb dX5_record_2 (by decide) ?_
  refine lv_ldc2 (v := 3) hx hb hown (hts _ wd_cl_X5_155) dX5_record_3 ?_
  obtain ⟨x1, hr2, hf⟩ := bd_some hf
  refine mw_callSi (rest := []) X hG (c_X5_in l dC dI cy a X.2.2.1  M (v2.toInt64) (0 : Int64) (3 : Int64) hr2) (mw_cwS X 3 g_X5_23 hd_X5_in ⟨rfl, rfl⟩ ⟨Nat.le_of_ble_eq_true rfl, Nat.le_of_ble_eq_true rfl⟩) rfl hl.1 rfl (Nat.le_of_ble_eq_true rfl) dX5_record_6 (fun H locs hG => ?_)
  refine lv_if_eq (tgt := 16) hx hb dX5_record_9 (by decide) (fun c3 => ?_) (fun c3 => ?_)
  · have hf := itep c3 hf
    exact w_X5_record_L16 X hT hf hG (lv_sub hl [0] rfl)
  · have hf := iten c3 hf
    refine lv_iload_n hx hb dX5_record_12 rfl (lv_at hl 1 rfl) ?_
    refine lv_if_ge (tgt := 19) hx hb dX5_record_13 (by decide) (fun c4 => ?_) (fun c4 => ?_)
    · have hf := itep c4 hf
      refine lv_iload_n hx hb dX5_record_19 rfl (lv_at hl 1 rfl) ?_
      refine lv_aload_n hx hb dX5_record_20 rfl (lv_at hl 0 rfl) ?_
      refine gf_X5_30 X hG hT dX5_record_21 ?_
      refine lv_icmp_ge (tgt := 40) hx hb dX5_record_24 (by decide) (fun c5 => ?_) (fun c5 => ?_)
      · have hf := itep c5 hf
        refine lv_iconst (v := -1) hx hb dX5_record_40 (by decide) ?_
        exact w_X5_record_L41 X hT hf hG (lv_sub hl [0] rfl)
      · have hf := iten c5 hf
        refine lv_aload_n hx hb dX5_record_27 rfl (lv_at hl 0 rfl) ?_
        refine gf_X5_17 X hG hT dX5_record_28 ?_
        refine lv_iconst (v := 4) hx hb dX5_record_31 (by decide) ?_
        refine lv_iload_n hx hb dX5_record_32 rfl (lv_at hl 1 rfl) ?_
        refine lv_imul hx hb dX5_record_33 ?_
        refine lv_iload_n hx hb dX5_record_34 rfl (lv_at hl 2 rfl) ?_
        refine lv_iadd hx hb dX5_record_35 ?_
        obtain ⟨hi6, hf⟩ := ck_some hf
        refine mw_iald X hG hT.2.2.2.1 hi6 dX5_record_36 ?_
        refine lv_goto (tgt := 41) hx hb dX5_record_37 (by decide) ?_
        exact w_X5_record_L41 X hT hf hG (lv_sub hl [0] rfl)
    · have hf := iten c4 hf
      exact w_X5_record_L16 X hT hf hG (lv_sub hl [0] rfl)
/-! X5_ring -/
set_option maxHeartbeats 4000000 in
set_option maxRecDepth 100000 in
theorem w_X5_ring_L18 {l : Launch} {dC : Nat → ClassId} {dI : Nat → Nat → Nat} {cy : Nat → ClassId} {a : Nat → Nat} {p : Program} {e : Env} {s : State} {m : MethodId} {args : Array Value} {below : List Frame} {meth : Method} {c : Code} (X : XU dC dI cy a p s m c args meth cX5_ring 2 RX5 (some .int)) {M : Mem} {this : Nat} (hT : K5 this) {s0 : Int32} {o : (Int32 × Mem)} {H : Heap} {locs : List Loc} {ls : Array Slot} (hf : f_X5_ring_L18 M this s0 = some o) (hG : GU dC dI cy a s.heap M H locs) (hl : lv_has ls 2 [(0, .ref (a this))]) : W p l e ({ frames := 2, cells := 0, slots := 0, locals := 46 } : Room) s m args below meth c H locs 0 0 (MQ below (QUi dC dI cy a o.1 o.2) args s 0 0 (AU a)) (F0 m 18 ls [.int s0]) := by
  have hx := X.1.1
  have hb := X.1.2.1
  have hown := X.1.2.2.2.1
  have hts := X.1.2.2.2.2
  rw [f_X5_ring_L18] at hf
  obtain rfl := Option.some.inj hf
  exact mw_iret X hG dX5_ring_18
set_option maxHeartbeats 4000000 in
set_option maxRecDepth 100000 in
theorem c_X5_ring (l : Launch) (dC : Nat → ClassId) (dI : Nat → Nat → Nat) (cy : Nat → ClassId) (a : Nat → Nat) (ha : injU a) (this : Nat) (hT : K5 this) (M : Mem) (v1 : Int32) {o : (Int32 × Mem)} (hf : f_X5_ring M this v1 = some o) : Met l yX5_ring (wsU yX5_ring cX5_ring 2 (some .int)) ({ frames := 2, cells := 0, slots := 0, locals := 46 } : Room) (PU dC dI cy a [.ref (a this), .int v1] M) (QUi dC dI cy a o.1 o.2) 0 0 (AU a) := by
  refine mw_met (by decide) ha (Nat.le_of_ble_eq_true rfl) ?_
  intro p e s m below meth c ls X hG hl
  have hl : lv_has ls 2 [(0, .ref (a this)), (1, .int v1)] := hl
  have X : XU dC dI cy a p s m c [.ref (a this), .int v1].toArray meth cX5_ring 2 RX5 (some .int) := X
  have hx := X.1.1
  have hb := X.1.2.1
  have hown := X.1.2.2.2.1
  have hts := X.1.2.2.2.2
  rw [f_X5_ring] at hf
  refine lv_aload_n hx hb dX5_ring_0 rfl (lv_at hl 0 rfl) ?_
  refine lv_iload_n hx hb dX5_ring_1 rfl (lv_at hl 1 rfl) ?_
  obtain ⟨x1, hr2, hf⟩ := bd_some hf
  refine mw_callVi (rest := []) X hG hT.1 rfl (c_X5_isPart l dC dI cy a X.2.2.1 this hT M v1 hr2) (mw_cwV X 1 g_X5_38 hd_X5_isPart ⟨rfl, rfl⟩ ⟨Nat.le_of_ble_eq_true rfl, Nat.le_of_ble_eq_true rfl⟩) rfl hl.1 rfl (Nat.le_of_ble_eq_true rfl) dX5_ring_2 (fun H locs hG => ?_)
  refine lv_if_eq (tgt := 16) hx hb dX5_ring_5 (by decide) (fun c3 => ?_) (fun c3 => ?_)
  · have hf := itep c3 hf
    refine lv_ldc (v := -1000000001) hx hb hown (hts _ wd_ct_X5_42) dX5_ring_16 ?_
    exact w_X5_ring_L18 X hT hf hG (lv_sub hl [0] rfl)
  · have hf := iten c3 hf
    refine lv_aload_n hx hb dX5_ring_8 rfl (lv_at hl 0 rfl) ?_
    refine lv_iload_n hx hb dX5_ring_9 rfl (lv_at hl 1 rfl) ?_
    obtain ⟨x5, M4, hr6, hf⟩ := bd2_some hf
    refine mw_callVi (rest := []) X hG hT.1 rfl (c_X5_ringOf l dC dI cy a X.2.2.1 this hT M v1 hr6) (mw_cwV X 1 g_X5_122 hd_X5_ringOf ⟨rfl, rfl⟩ ⟨Nat.le_of_ble_eq_true rfl, Nat.le_of_ble_eq_true rfl⟩) rfl hl.1 rfl (Nat.le_of_ble_eq_true rfl) dX5_ring_10 (fun H locs hG => ?_)
    refine lv_goto (tgt := 18) hx hb dX5_ring_13 (by decide) ?_
    exact w_X5_ring_L18 X hT hf hG (lv_sub hl [0] rfl)
/-! X5_waits -/
set_option maxHeartbeats 4000000 in
set_option maxRecDepth 100000 in
theorem w_X5_waits_L87 {l : Launch} {dC : Nat → ClassId} {dI : Nat → Nat → Nat} {cy : Nat → ClassId} {a : Nat → Nat} {p : Program} {e : Env} {s : State} {m : MethodId} {args : Array Value} {below : List Frame} {meth : Method} {c : Code} (X : XU dC dI cy a p s m c args meth cX5_waits 6 RX5 (some .int)) {M : Mem} {this : Nat} (hT : K5 this) {v3 : Int32} {v4 : Int32} {s0 : Int32} {s1 : Int32} {o : Int32} {k18 : Int32 → Int32 → Int32 → Option Int32} (hk18 : ∀ (v2 : Int32) (v3 : Int32) (v4 : Int32) (H : Heap) (locs : List Loc) (ls : Array Slot), k18 v2 v3 v4 = some o → GU dC dI cy a s.heap M H locs → lv_has ls 6 [(0, .ref (a this)), (2, .int v2), (3, .int v3), (4, .int v4)] → W p l e ({ frames := 5, cells := 0, slots := 0, locals := 112 } : Room) s m args below meth c H locs 0 0 (MQ below (QUi dC dI cy a o M) args s 0 0 (AU a)) (F0 m 18 ls [])) {H : Heap} {locs : List Loc} {ls : Array Slot} (hf : f_X5_waits_L87 k18 M this v3 v4 s0 s1 = some o) (hG : GU dC dI cy a s.heap M H locs) (hl : lv_has ls 6 [(0, .ref (a this)), (3, .int v3), (4, .int v4)]) : W p l e ({ frames := 5, cells := 0, slots := 0, locals := 112 } : Room) s m args below meth c H locs 0 0 (MQ below (QUi dC dI cy a o M) args s 0 0 (AU a)) (F0 m 87 ls [.int s0, .int s1]) := by
  have hx := X.1.1
  have hb := X.1.2.1
  have hown := X.1.2.2.2.1
  have hts := X.1.2.2.2.2
  rw [f_X5_waits_L87] at hf
  refine lv_ior hx hb dX5_waits_87 ?_
  refine lv_topi (fun x1 ex1 => ?_)
  have hf := nm_of ex1 hf
  refine lv_istore_n (lv' := [(2, .int x1), (0, .ref (a this)), (3, .int v3), (4, .int v4)]) hx hb dX5_waits_88 rfl hl (by decide) rfl (fun ls hl => ?_)
  refine lv_goto (tgt := 18) hx hb dX5_waits_89 (by decide) ?_
  exact hk18 _ _ _ _ _ _ hf hG (lv_sub hl [1, 0, 2, 3] rfl)
set_option maxHeartbeats 4000000 in
set_option maxRecDepth 100000 in
theorem w_X5_waits_L72 {l : Launch} {dC : Nat → ClassId} {dI : Nat → Nat → Nat} {cy : Nat → ClassId} {a : Nat → Nat} {p : Program} {e : Env} {s : State} {m : MethodId} {args : Array Value} {below : List Frame} {meth : Method} {c : Code} (X : XU dC dI cy a p s m c args meth cX5_waits 6 RX5 (some .int)) {M : Mem} {this : Nat} (hT : K5 this) {v2 : Int32} {v3 : Int32} {s0 : Int32} {o : Int32} {k18 : Int32 → Int32 → Int32 → Option Int32} (hk18 : ∀ (v2 : Int32) (v3 : Int32) (v4 : Int32) (H : Heap) (locs : List Loc) (ls : Array Slot), k18 v2 v3 v4 = some o → GU dC dI cy a s.heap M H locs → lv_has ls 6 [(0, .ref (a this)), (2, .int v2), (3, .int v3), (4, .int v4)] → W p l e ({ frames := 5, cells := 0, slots := 0, locals := 112 } : Room) s m args below meth c H locs 0 0 (MQ below (QUi dC dI cy a o M) args s 0 0 (AU a)) (F0 m 18 ls [])) {H : Heap} {locs : List Loc} {ls : Array Slot} (hf : f_X5_waits_L72 k18 M this v2 v3 s0 = some o) (hG : GU dC dI cy a s.heap M H locs) (hl : lv_has ls 6 [(0, .ref (a this)), (2, .int v2), (3, .int v3)]) : W p l e ({ frames := 5, cells := 0, slots := 0, locals := 112 } : Room) s m args below meth c H locs 0 0 (MQ below (QUi dC dI cy a o M) args s 0 0 (AU a)) (F0 m 72 ls [.int s0]) := by
  have hx := X.1.1
  have hb := X.1.2.1
  have hown := X.1.2.2.2.1
  have hts := X.1.2.2.2.2
  rw [f_X5_waits_L72] at hf
  refine lv_istore (lv' := [(4, .int s0), (0, .ref (a this)), (2, .int v2), (3, .int v3)]) hx hb dX5_waits_72 hl (by decide) rfl (fun ls hl => ?_)
  refine lv_iload_n hx hb dX5_waits_74 rfl (lv_at hl 2 rfl) ?_
  refine lv_iload hx hb dX5_waits_75 (lv_at hl 0 rfl) ?_
  refine lv_if_eq (tgt := 86) hx hb dX5_waits_77 (by decide) (fun c1 => ?_) (fun c1 => ?_)
  · have hf := itep c1 hf
    refine lv_iconst (v := 0) hx hb dX5_waits_86 (by decide) ?_
    exact w_X5_waits_L87 X hT hk18 hf hG (lv_sub hl [1, 3, 0] rfl)
  · have hf := iten c1 hf
    refine lv_iconst (v := 1) hx hb dX5_waits_80 (by decide) ?_
    refine lv_iload_n hx hb dX5_waits_81 rfl (lv_at hl 3 rfl) ?_
    refine lv_ishl hx hb dX5_waits_82 ?_
    refine lv_goto (tgt := 87) hx hb dX5_waits_83 (by decide) ?_
    exact w_X5_waits_L87 X hT hk18 hf hG (lv_sub hl [1, 3, 0] rfl)
set_option maxHeartbeats 4000000 in
set_option maxRecDepth 100000 in
theorem w_X5_waits_L71 {l : Launch} {dC : Nat → ClassId} {dI : Nat → Nat → Nat} {cy : Nat → ClassId} {a : Nat → Nat} {p : Program} {e : Env} {s : State} {m : MethodId} {args : Array Value} {below : List Frame} {meth : Method} {c : Code} (X : XU dC dI cy a p s m c args meth cX5_waits 6 RX5 (some .int)) {M : Mem} {this : Nat} (hT : K5 this) {v2 : Int32} {v3 : Int32} {o : Int32} {k18 : Int32 → Int32 → Int32 → Option Int32} (hk18 : ∀ (v2 : Int32) (v3 : Int32) (v4 : Int32) (H : Heap) (locs : List Loc) (ls : Array Slot), k18 v2 v3 v4 = some o → GU dC dI cy a s.heap M H locs → lv_has ls 6 [(0, .ref (a this)), (2, .int v2), (3, .int v3), (4, .int v4)] → W p l e ({ frames := 5, cells := 0, slots := 0, locals := 112 } : Room) s m args below meth c H locs 0 0 (MQ below (QUi dC dI cy a o M) args s 0 0 (AU a)) (F0 m 18 ls [])) {H : Heap} {locs : List Loc} {ls : Array Slot} (hf : f_X5_waits_L71 k18 M this v2 v3 = some o) (hG : GU dC dI cy a s.heap M H locs) (hl : lv_has ls 6 [(0, .ref (a this)), (2, .int v2), (3, .int v3)]) : W p l e ({ frames := 5, cells := 0, slots := 0, locals := 112 } : Room) s m args below meth c H locs 0 0 (MQ below (QUi dC dI cy a o M) args s 0 0 (AU a)) (F0 m 71 ls []) := by
  have hx := X.1.1
  have hb := X.1.2.1
  have hown := X.1.2.2.2.1
  have hts := X.1.2.2.2.2
  rw [f_X5_waits_L71] at hf
  refine lv_iconst (v := 0) hx hb dX5_waits_71 (by decide) ?_
  exact w_X5_waits_L72 X hT hk18 hf hG (lv_sub hl [0, 1, 2] rfl)
set_option maxHeartbeats 4000000 in
set_option maxRecDepth 100000 in
theorem w_X5_waits_L53 {l : Launch} {dC : Nat → ClassId} {dI : Nat → Nat → Nat} {cy : Nat → ClassId} {a : Nat → Nat} {p : Program} {e : Env} {s : State} {m : MethodId} {args : Array Value} {below : List Frame} {meth : Method} {c : Code} (X : XU dC dI cy a p s m c args meth cX5_waits 6 RX5 (some .int)) {M : Mem} {this : Nat} (hT : K5 this) {v2 : Int32} {s0 : Int32} {o : Int32} {k18 : Int32 → Int32 → Int32 → Option Int32} (hk18 : ∀ (v2 : Int32) (v3 : Int32) (v4 : Int32) (H : Heap) (locs : List Loc) (ls : Array Slot), k18 v2 v3 v4 = some o → GU dC dI cy a s.heap M H locs → lv_has ls 6 [(0, .ref (a this)), (2, .int v2), (3, .int v3), (4, .int v4)] → W p l e ({ frames := 5, cells := 0, slots := 0, locals := 112 } : Room) s m args below meth c H locs 0 0 (MQ below (QUi dC dI cy a o M) args s 0 0 (AU a)) (F0 m 18 ls [])) {H : Heap} {locs : List Loc} {ls : Array Slot} (hf : f_X5_waits_L53 k18 M this v2 s0 = some o) (hG : GU dC dI cy a s.heap M H locs) (hl : lv_has ls 6 [(0, .ref (a this)), (2, .int v2)]) : W p l e ({ frames := 5, cells := 0, slots := 0, locals := 112 } : Room) s m args below meth c H locs 0 0 (MQ below (QUi dC dI cy a o M) args s 0 0 (AU a)) (F0 m 53 ls [.int s0]) := by
  have hx := X.1.1
  have hb := X.1.2.1
  have hown := X.1.2.2.2.1
  have hts := X.1.2.2.2.2
  rw [f_X5_waits_L53] at hf
  refine lv_istore_n (lv' := [(3, .int s0), (0, .ref (a this)), (2, .int v2)]) hx hb dX5_waits_53 rfl hl (by decide) rfl (fun ls hl => ?_)
  refine lv_iload_n hx hb dX5_waits_54 rfl (lv_at hl 0 rfl) ?_
  refine lv_iconst (v := -1) hx hb dX5_waits_55 (by decide) ?_
  refine lv_icmp_eq (tgt := 71) hx hb dX5_waits_56 (by decide) (fun c1 => ?_) (fun c1 => ?_)
  · have hf := itep c1 hf
    exact w_X5_waits_L71 X hT hk18 hf hG (lv_sub hl [1, 2, 0] rfl)
  · have hf := iten c1 hf
    refine lv_iload_n hx hb dX5_waits_59 rfl (lv_at hl 2 rfl) ?_
    refine lv_iload_n hx hb dX5_waits_60 rfl (lv_at hl 0 rfl) ?_
    obtain ⟨x2, hr3, hf⟩ := bd_some hf
    refine mw_callSi (rest := []) X hG (c_X5_has l dC dI cy a X.2.2.1  M v2 s0 hr3) (mw_cwS X 2 g_X5_157 hd_X5_has ⟨rfl, rfl⟩ ⟨Nat.le_of_ble_eq_true rfl, Nat.le_of_ble_eq_true rfl⟩) rfl hl.1 rfl (Nat.le_of_ble_eq_true rfl) dX5_waits_61 (fun H locs hG => ?_)
    refine lv_if_ne (tgt := 71) hx hb dX5_waits_64 (by decide) (fun c4 => ?_) (fun c4 => ?_)
    · have hf := iten c4 hf
      exact w_X5_waits_L71 X hT hk18 hf hG (lv_sub hl [1, 2, 0] rfl)
    · have hf := itep c4 hf
      refine lv_iconst (v := 1) hx hb dX5_waits_67 (by decide) ?_
      refine lv_goto (tgt := 72) hx hb dX5_waits_68 (by decide) ?_
      exact w_X5_waits_L72 X hT hk18 hf hG (lv_sub hl [1, 2, 0] rfl)
set_option maxHeartbeats 4000000 in
set_option maxRecDepth 100000 in
theorem w_X5_waits_L18 {l : Launch} {dC : Nat → ClassId} {dI : Nat → Nat → Nat} {cy : Nat → ClassId} {a : Nat → Nat} {p : Program} {e : Env} {s : State} {m : MethodId} {args : Array Value} {below : List Frame} {meth : Method} {c : Code} (X : XU dC dI cy a p s m c args meth cX5_waits 6 RX5 (some .int)) {M : Mem} {this : Nat} (hT : K5 this) {o : Int32} : ∀ (n : Nat) (v2 : Int32) (v3 : Int32) (v4 : Int32) (H : Heap) (locs : List Loc) (ls : Array Slot), f_X5_waits_L18 M this n v2 v3 v4 = some o → GU dC dI cy a s.heap M H locs → lv_has ls 6 [(0, .ref (a this)), (2, .int v2), (3, .int v3), (4, .int v4)] → W p l e ({ frames := 5, cells := 0, slots := 0, locals := 112 } : Room) s m args below meth c H locs 0 0 (MQ below (QUi dC dI cy a o M) args s 0 0 (AU a)) (F0 m 18 ls []) := by
  have hx := X.1.1
  have hb := X.1.2.1
  have hown := X.1.2.2.2.1
  have hts := X.1.2.2.2.2
  intro n
  induction n with
  | zero => intro v2 v3 v4 H locs ls hf; cases hf
  | succ n ih =>
    intro v2 v3 v4 H locs ls hf hG hl
    rw [f_X5_waits_L18] at hf
    refine lv_iload hx hb dX5_waits_18 (lv_at hl 3 rfl) ?_
    refine lv_if_eq (tgt := 92) hx hb dX5_waits_20 (by decide) (fun c1 => ?_) (fun c1 => ?_)
    · have hf := itep c1 hf
      refine lv_iload_n hx hb dX5_waits_92 rfl (lv_at hl 1 rfl) ?_
      obtain rfl := Option.some.inj hf
      exact mw_iret X hG dX5_waits_93
    · have hf := iten c1 hf
      refine lv_aload_n hx hb dX5_waits_23 rfl (lv_at hl 0 rfl) ?_
      refine lv_iload_n hx hb dX5_waits_24 rfl (lv_at hl 2 rfl) ?_
      obtain ⟨x2, hr3, hf⟩ := bd_some hf
      refine mw_callVi (rest := []) X hG hT.1 rfl (c_X5_waitsBy l dC dI cy a X.2.2.1 this hT M v3 hr3) (mw_cwV X 1 g_X5_146 hd_X5_waitsBy ⟨rfl, rfl⟩ ⟨Nat.le_of_ble_eq_true rfl, Nat.le_of_ble_eq_true rfl⟩) rfl hl.1 rfl (Nat.le_of_ble_eq_true rfl) dX5_waits_25 (fun H locs hG => ?_)
      refine lv_istore (lv' := [(5, .int x2), (0, .ref (a this)), (2, .int v2), (3, .int v3), (4, .int v4)]) hx hb dX5_waits_28 hl (by decide) rfl (fun ls hl => ?_)
      refine lv_iload hx hb dX5_waits_30 (lv_at hl 0 rfl) ?_
      refine lv_iconst (v := -1) hx hb dX5_waits_32 (by decide) ?_
      refine lv_icmp_ne (tgt := 40) hx hb dX5_waits_33 (by decide) (fun c4 => ?_) (fun c4 => ?_)
      · have hf := iten c4 hf
        refine lv_aload_n hx hb dX5_waits_40 rfl (lv_at hl 1 rfl) ?_
        refine gf_X5_7 X hG hT dX5_waits_41 ?_
        refine lv_iconst (v := 0) hx hb dX5_waits_44 (by decide) ?_
        refine lv_iload hx hb dX5_waits_45 (lv_at hl 0 rfl) ?_
        obtain ⟨x5, hr6, hf⟩ := bd_some hf
        refine mw_callSi (rest := [.ref (a (this + 1))]) X hG (c_X5_at l dC dI cy a X.2.2.1  M (0 : Int32) x2 hr6) (mw_cwS X 2 g_X5_34 hd_X5_at ⟨rfl, rfl⟩ ⟨Nat.le_of_ble_eq_true rfl, Nat.le_of_ble_eq_true rfl⟩) rfl hl.1 rfl (Nat.le_of_ble_eq_true rfl) dX5_waits_47 (fun H locs hG => ?_)
        refine lv_iconst (v := 0) hx hb dX5_waits_50 (by decide) ?_
        refine lv_iadd hx hb dX5_waits_51 ?_
        obtain ⟨hi7, hf⟩ := ck_some hf
        refine mw_iald X hG hT.2.1 hi7 dX5_waits_52 ?_
        exact w_X5_waits_L53 X hT ih hf hG (lv_sub hl [1, 2] rfl)
      · have hf := itep c4 hf
        refine lv_iconst (v := -1) hx hb dX5_waits_36 (by decide) ?_
        refine lv_goto (tgt := 53) hx hb dX5_waits_37 (by decide) ?_
        exact w_X5_waits_L53 X hT ih hf hG (lv_sub hl [1, 2] rfl)
set_option maxHeartbeats 4000000 in
set_option maxRecDepth 100000 in
theorem c_X5_waits (l : Launch) (dC : Nat → ClassId) (dI : Nat → Nat → Nat) (cy : Nat → ClassId) (a : Nat → Nat) (ha : injU a) (this : Nat) (hT : K5 this) (M : Mem) (v1 : Int32) {o : Int32} (hf : f_X5_waits M this v1 = some o) : Met l yX5_waits (wsU yX5_waits cX5_waits 6 (some .int)) ({ frames := 5, cells := 0, slots := 0, locals := 112 } : Room) (PU dC dI cy a [.ref (a this), .int v1] M) (QUi dC dI cy a o M) 0 0 (AU a) := by
  refine mw_met (by decide) ha (Nat.le_of_ble_eq_true rfl) ?_
  intro p e s m below meth c ls X hG hl
  have hl : lv_has ls 6 [(0, .ref (a this)), (1, .int v1)] := hl
  have X : XU dC dI cy a p s m c [.ref (a this), .int v1].toArray meth cX5_waits 6 RX5 (some .int) := X
  have hx := X.1.1
  have hb := X.1.2.1
  have hown := X.1.2.2.2.1
  have hts := X.1.2.2.2.2
  rw [f_X5_waits] at hf
  refine lv_aload_n hx hb dX5_waits_0 rfl (lv_at hl 0 rfl) ?_
  refine lv_iload_n hx hb dX5_waits_1 rfl (lv_at hl 1 rfl) ?_
  obtain ⟨x1, hr2, hf⟩ := bd_some hf
  refine mw_callVi (rest := []) X hG hT.1 rfl (c_X5_isPart l dC dI cy a X.2.2.1 this hT M v1 hr2) (mw_cwV X 1 g_X5_38 hd_X5_isPart ⟨rfl, rfl⟩ ⟨Nat.le_of_ble_eq_true rfl, Nat.le_of_ble_eq_true rfl⟩) rfl hl.1 rfl (Nat.le_of_ble_eq_true rfl) dX5_waits_2 (fun H locs hG => ?_)
  refine lv_if_ne (tgt := 11) hx hb dX5_waits_5 (by decide) (fun c3 => ?_) (fun c3 => ?_)
  · have hf := iten c3 hf
    refine lv_iconst (v := 0) hx hb dX5_waits_11 (by decide) ?_
    refine lv_istore_n (lv' := [(2, .int (0 : Int32)), (0, .ref (a this)), (1, .int v1)]) hx hb dX5_waits_12 rfl hl (by decide) rfl (fun ls hl => ?_)
    refine lv_iload_n hx hb dX5_waits_13 rfl (lv_at hl 2 rfl) ?_
    refine lv_istore_n (lv' := [(3, .int v1), (2, .int (0 : Int32)), (0, .ref (a this)), (1, .int v1)]) hx hb dX5_waits_14 rfl hl (by decide) rfl (fun ls hl => ?_)
    refine lv_iconst (v := 1) hx hb dX5_waits_15 (by decide) ?_
    refine lv_istore (lv' := [(4, .int (1 : Int32)), (3, .int v1), (2, .int (0 : Int32)), (0, .ref (a this)), (1, .int v1)]) hx hb dX5_waits_16 hl (by decide) rfl (fun ls hl => ?_)
    exact w_X5_waits_L18 X hT 1000 _ _ _ _ _ _ hf hG (lv_sub hl [3, 2, 1, 0] rfl)
  · have hf := itep c3 hf
    refine lv_ldc (v := -1000000001) hx hb hown (hts _ wd_ct_X5_42) dX5_waits_8 ?_
    obtain rfl := Option.some.inj hf
    exact mw_iret X hG dX5_waits_10
