/-! X5_form -/
set_option maxHeartbeats 4000000 in
set_option maxRecDepth 100000 in
theorem c_X5_form (l : Launch) (dC : Nat → ClassId) (dI : Nat → Nat → Nat) (cy : Nat → ClassId) (a : Nat → Nat) (ha : injU a) (this : Nat) (hT : K5 this) (M : Mem) (v1 : Int32) {o : (Int32 × Mem)} (hf : f_X5_form M this v1 = some o) : Met l yX5_form (wsU yX5_form cX5_form 3 (some .int)) ({ frames := 1, cells := 0, slots := 0, locals := 25 } : Room) (PU dC dI cy a [.ref (a this), .int v1] M) (QUi dC dI cy a o.1 o.2) 0 0 (AU a) := by
  refine mw_met (by decide) ha (Nat.le_of_ble_eq_true rfl) ?_
  intro p e s m below meth c ls X hG hl
  have hl : lv_has ls 3 [(0, .ref (a this)), (1, .int v1)] := hl
  have X : XU dC dI cy a p s m c [.ref (a this), .int v1].toArray meth cX5_form 3 RX5 (some .int) := X
  have hx := X.1.1
  have hb := X.1.2.1
  have hown := X.1.2.2.2.1
  have hts := X.1.2.2.2.2
  rw [f_X5_form] at hf
  refine lv_iload_n hx hb dX5_form_0 rfl (lv_at hl 1 rfl) ?_
  refine lv_i2l (v := v1.toInt64) hx hb dX5_form_1 rfl ?_
  refine lv_lconst (v := 0) hx hb dX5_form_2 (by decide) ?_
  refine lv_ldc2 (v := 2) hx hb hown (hts _ wd_cl_X5_63) dX5_form_3 ?_
  obtain ⟨x1, hr2, hf⟩ := bd_some hf
  refine mw_callSi (rest := []) X hG (c_X5_in l dC dI cy a X.2.2.1  M (v1.toInt64) (0 : Int64) (2 : Int64) hr2) (mw_cwS X 3 g_X5_23 hd_X5_in ⟨rfl, rfl⟩ ⟨Nat.le_of_ble_eq_true rfl, Nat.le_of_ble_eq_true rfl⟩) rfl hl.1 rfl (Nat.le_of_ble_eq_true rfl) dX5_form_6 (fun H locs hG => ?_)
  refine lv_if_ne (tgt := 15) hx hb dX5_form_9 (by decide) (fun c3 => ?_) (fun c3 => ?_)
  · have hf := iten c3 hf
    refine lv_aload_n hx hb dX5_form_15 rfl (lv_at hl 0 rfl) ?_
    refine gf_X5_7 X hG hT dX5_form_16 ?_
    refine lv_iconst (v := 2) hx hb dX5_form_19 (by decide) ?_
    obtain ⟨hi4, hf⟩ := ck_some hf
    refine mw_iald X hG hT.2.1 hi4 dX5_form_20 ?_
    refine lv_topi (fun x5 ex5 => ?_)
    have hf := nm_of ex5 hf
    refine lv_istore_n (lv' := [(2, .int x5), (0, .ref (a this)), (1, .int v1)]) hx hb dX5_form_21 rfl hl (by decide) rfl (fun ls hl => ?_)
    refine lv_aload_n hx hb dX5_form_22 rfl (lv_at hl 1 rfl) ?_
    refine gf_X5_7 X hG hT dX5_form_23 ?_
    refine lv_iconst (v := 2) hx hb dX5_form_26 (by decide) ?_
    refine lv_iload_n hx hb dX5_form_27 rfl (lv_at hl 2 rfl) ?_
    obtain ⟨hi6, hf⟩ := ck_some hf
    refine mw_iast X hG hT.2.1 hi6 dX5_form_28 (fun M7 H locs eM7 hG => ?_)
    have hf := nm_of eM7 hf
    refine lv_iload_n hx hb dX5_form_29 rfl (lv_at hl 0 rfl) ?_
    obtain rfl := Option.some.inj hf
    exact mw_iret X hG dX5_form_30
  · have hf := itep c3 hf
    refine lv_ldc (v := -1000000002) hx hb hown (hts _ wd_ct_X5_29) dX5_form_12 ?_
    obtain rfl := Option.some.inj hf
    exact mw_iret X hG dX5_form_14
/-! X5_draw -/
set_option maxHeartbeats 4000000 in
set_option maxRecDepth 100000 in
theorem c_X5_draw (l : Launch) (dC : Nat → ClassId) (dI : Nat → Nat → Nat) (cy : Nat → ClassId) (a : Nat → Nat) (ha : injU a) (this : Nat) (hT : K5 this) (M : Mem) (v1 : Int32) {o : (Int32 × Mem)} (hf : f_X5_draw M this v1 = some o) : Met l yX5_draw (wsU yX5_draw cX5_draw 2 (some .int)) ({ frames := 0, cells := 0, slots := 0, locals := 0 } : Room) (PU dC dI cy a [.ref (a this), .int v1] M) (QUi dC dI cy a o.1 o.2) 0 0 (AU a) := by
  refine mw_met (by decide) ha (Nat.le_of_ble_eq_true rfl) ?_
  intro p e s m below meth c ls X hG hl
  have hl : lv_has ls 2 [(0, .ref (a this)), (1, .int v1)] := hl
  have X : XU dC dI cy a p s m c [.ref (a this), .int v1].toArray meth cX5_draw 2 RX5 (some .int) := X
  have hx := X.1.1
  have hb := X.1.2.1
  have hown := X.1.2.2.2.1
  have hts := X.1.2.2.2.2
  rw [f_X5_draw] at hf
  refine lv_aload_n hx hb dX5_draw_0 rfl (lv_at hl 0 rfl) ?_
  refine lv_aload_n hx hb dX5_draw_1 rfl (lv_at hl 0 rfl) ?_
  refine gf_X5_65 X hG hT dX5_draw_2 ?_
  refine lv_ldc2 (v := 16807) hx hb hown (hts _ wd_cl_X5_69) dX5_draw_5 ?_
  refine lv_lmul hx hb dX5_draw_8 ?_
  refine lv_ldc2 (v := 2147483647) hx hb hown (hts _ wd_cl_X5_71) dX5_draw_9 ?_
  obtain ⟨hz1, hf⟩ := nzl_some hf
  refine lv_lrem hx hb dX5_draw_12 hz1 ?_
  refine pf_X5_65 X hG hT dX5_draw_13 (fun M2 H locs eM2 hG => ?_)
  have hf := nm_of eM2 hf
  refine lv_aload_n hx hb dX5_draw_16 rfl (lv_at hl 0 rfl) ?_
  refine gf_X5_65 X hG hT dX5_draw_17 ?_
  refine lv_iload_n hx hb dX5_draw_20 rfl (lv_at hl 1 rfl) ?_
  refine lv_i2l (v := v1.toInt64) hx hb dX5_draw_21 rfl ?_
  obtain ⟨hz3, hf⟩ := nzl_some hf
  refine lv_lrem hx hb dX5_draw_22 hz3 ?_
  refine lv_l2i (v := (jreml (rdJ M2) (v1.toInt64)).toInt32) hx hb dX5_draw_23 rfl ?_
  obtain rfl := Option.some.inj hf
  exact mw_iret X hG dX5_draw_24
/-! X5_drift -/
set_option maxHeartbeats 4000000 in
set_option maxRecDepth 100000 in
theorem w_X5_drift_L24 {l : Launch} {dC : Nat → ClassId} {dI : Nat → Nat → Nat} {cy : Nat → ClassId} {a : Nat → Nat} {p : Program} {e : Env} {s : State} {m : MethodId} {args : Array Value} {below : List Frame} {meth : Method} {c : Code} (X : XU dC dI cy a p s m c args meth cX5_drift 8 RX5 (some .int)) {M : Mem} {this : Nat} (hT : K5 this) {o : (Int32 × Mem)} {H : Heap} {locs : List Loc} {ls : Array Slot} (hf : f_X5_drift_L24 M this = some o) (hG : GU dC dI cy a s.heap M H locs) (hl : lv_has ls 8 [(0, .ref (a this))]) : W p l e ({ frames := 3, cells := 0, slots := 0, locals := 69 } : Room) s m args below meth c H locs 0 0 (MQ below (QUi dC dI cy a o.1 o.2) args s 0 0 (AU a)) (F0 m 24 ls []) := by
  have hx := X.1.1
  have hb := X.1.2.1
  have hown := X.1.2.2.2.1
  have hts := X.1.2.2.2.2
  rw [f_X5_drift_L24] at hf
  refine lv_ldc (v := -1000000002) hx hb hown (hts _ wd_ct_X5_29) dX5_drift_24 ?_
  obtain rfl := Option.some.inj hf
  exact mw_iret X hG dX5_drift_26
set_option maxHeartbeats 4000000 in
set_option maxRecDepth 100000 in
theorem w_X5_drift_L116 {l : Launch} {dC : Nat → ClassId} {dI : Nat → Nat → Nat} {cy : Nat → ClassId} {a : Nat → Nat} {p : Program} {e : Env} {s : State} {m : MethodId} {args : Array Value} {below : List Frame} {meth : Method} {c : Code} (X : XU dC dI cy a p s m c args meth cX5_drift 8 RX5 (some .int)) {M : Mem} {this : Nat} (hT : K5 this) {v1 : Int32} {v4 : Int32} {s0 : Int32} {s1 : Int32} {o : (Int32 × Mem)} {k50 : Mem → Int32 → Int32 → Option (Int32 × Mem)} (hk50 : ∀ (M : Mem) (v3 : Int32) (v4 : Int32) (H : Heap) (locs : List Loc) (ls : Array Slot), k50 M v3 v4 = some o → GU dC dI cy a s.heap M H locs → lv_has ls 8 [(0, .ref (a this)), (1, .int v1), (3, .int v3), (4, .int v4)] → W p l e ({ frames := 3, cells := 0, slots := 0, locals := 69 } : Room) s m args below meth c H locs 0 0 (MQ below (QUi dC dI cy a o.1 o.2) args s 0 0 (AU a)) (F0 m 50 ls [])) {H : Heap} {locs : List Loc} {ls : Array Slot} (hf : f_X5_drift_L116 k50 M this v1 v4 s0 s1 = some o) (hG : GU dC dI cy a s.heap M H locs) (hl : lv_has ls 8 [(0, .ref (a this)), (1, .int v1), (4, .int v4)]) : W p l e ({ frames := 3, cells := 0, slots := 0, locals := 69 } : Room) s m args below meth c H locs 0 0 (MQ below (QUi dC dI cy a o.1 o.2) args s 0 0 (AU a)) (F0 m 116 ls [.int s0, .int s1]) := by
  have hx := X.1.1
  have hb := X.1.2.1
  have hown := X.1.2.2.2.1
  have hts := X.1.2.2.2.2
  rw [f_X5_drift_L116] at hf
  refine lv_iadd hx hb dX5_drift_116 ?_
  refine lv_topi (fun x1 ex1 => ?_)
  have hf := nm_of ex1 hf
  refine lv_istore_n (lv' := [(3, .int x1), (0, .ref (a this)), (1, .int v1), (4, .int v4)]) hx hb dX5_drift_117 rfl hl (by decide) rfl (fun ls hl => ?_)
  obtain ⟨x2, ex2⟩ : ∃ y : Int32, y = v4 + (1 : Int32) := ⟨_, rfl⟩
  have hf := nm_of ex2 hf
  refine lv_iinc (v := x2) (lv' := [(4, .int x2), (3, .int x1), (0, .ref (a this)), (1, .int v1)]) hx hb dX5_drift_118 hl (k := 3) rfl (by rw [ex2]; rfl) (by decide) rfl (fun ls hl => ?_)
  refine lv_goto (tgt := 50) hx hb dX5_drift_121 (by decide) ?_
  exact hk50 _ _ _ _ _ _ hf hG (lv_sub hl [2, 3, 1, 0] rfl)
set_option maxHeartbeats 4000000 in
set_option maxRecDepth 100000 in
theorem w_X5_drift_L50 {l : Launch} {dC : Nat → ClassId} {dI : Nat → Nat → Nat} {cy : Nat → ClassId} {a : Nat → Nat} {p : Program} {e : Env} {s : State} {m : MethodId} {args : Array Value} {below : List Frame} {meth : Method} {c : Code} (X : XU dC dI cy a p s m c args meth cX5_drift 8 RX5 (some .int)) {this : Nat} (hT : K5 this) {v1 : Int32} {o : (Int32 × Mem)} : ∀ (n : Nat) (M : Mem) (v3 : Int32) (v4 : Int32) (H : Heap) (locs : List Loc) (ls : Array Slot), f_X5_drift_L50 this v1 n M v3 v4 = some o → GU dC dI cy a s.heap M H locs → lv_has ls 8 [(0, .ref (a this)), (1, .int v1), (3, .int v3), (4, .int v4)] → W p l e ({ frames := 3, cells := 0, slots := 0, locals := 69 } : Room) s m args below meth c H locs 0 0 (MQ below (QUi dC dI cy a o.1 o.2) args s 0 0 (AU a)) (F0 m 50 ls []) := by
  have hx := X.1.1
  have hb := X.1.2.1
  have hown := X.1.2.2.2.1
  have hts := X.1.2.2.2.2
  intro n
  induction n with
  | zero => intro M v3 v4 H locs ls hf; cases hf
  | succ n ih =>
    intro M v3 v4 H locs ls hf hG hl
    rw [f_X5_drift_L50] at hf
    refine lv_iload hx hb dX5_drift_50 (lv_at hl 3 rfl) ?_
    refine lv_iload_n hx hb dX5_drift_52 rfl (lv_at hl 1 rfl) ?_
    refine lv_icmp_ge (tgt := 124) hx hb dX5_drift_53 (by decide) (fun c1 => ?_) (fun c1 => ?_)
    · have hf := itep c1 hf
      refine lv_iload_n hx hb dX5_drift_124 rfl (lv_at hl 2 rfl) ?_
      obtain rfl := Option.some.inj hf
      exact mw_iret X hG dX5_drift_125
    · have hf := iten c1 hf
      refine lv_aload_n hx hb dX5_drift_56 rfl (lv_at hl 0 rfl) ?_
      refine lv_aload_n hx hb dX5_drift_57 rfl (lv_at hl 0 rfl) ?_
      refine gf_X5_7 X hG hT dX5_drift_58 ?_
      refine lv_iconst (v := 0) hx hb dX5_drift_61 (by decide) ?_
      obtain ⟨hi2, hf⟩ := ck_some hf
      refine mw_iald X hG hT.2.1 hi2 dX5_drift_62 ?_
      obtain ⟨x4, M3, hr5, hf⟩ := bd2_some hf
      refine mw_callVi (rest := []) X hG hT.1 rfl (c_X5_draw l dC dI cy a X.2.2.1 this hT M (rd M (this + 1) (0 : Int32).toNatClampNeg) hr5) (mw_cwV X 1 g_X5_77 hd_X5_draw ⟨rfl, rfl⟩ ⟨Nat.le_of_ble_eq_true rfl, Nat.le_of_ble_eq_true rfl⟩) rfl hl.1 rfl (Nat.le_of_ble_eq_true rfl) dX5_drift_63 (fun H locs hG => ?_)
      refine lv_istore (lv' := [(5, .int x4), (0, .ref (a this)), (1, .int v1), (3, .int v3), (4, .int v4)]) hx hb dX5_drift_66 hl (by decide) rfl (fun ls hl => ?_)
      refine lv_aload_n hx hb dX5_drift_68 rfl (lv_at hl 1 rfl) ?_
      refine gf_X5_7 X hG hT dX5_drift_69 ?_
      refine lv_bipush (v := 22) hx hb dX5_drift_72 (by decide) ?_
      refine lv_iload hx hb dX5_drift_74 (lv_at hl 0 rfl) ?_
      refine lv_iadd hx hb dX5_drift_76 ?_
      obtain ⟨hi6, hf⟩ := ck_some hf
      refine mw_iald X hG hT.2.1 hi6 dX5_drift_77 ?_
      refine lv_iconst (v := 1) hx hb dX5_drift_78 (by decide) ?_
      refine lv_iadd hx hb dX5_drift_79 ?_
      refine lv_aload_n hx hb dX5_drift_80 rfl (lv_at hl 1 rfl) ?_
      refine lv_bipush (v := 50) hx hb dX5_drift_81 (by decide) ?_
      obtain ⟨x8, M7, hr9, hf⟩ := bd2_some hf
      refine mw_callVi (rest := [.int ((rd M3 (this + 1) ((22 : Int32) + x4).toNatClampNeg) + (1 : Int32))]) X hG hT.1 rfl (c_X5_draw l dC dI cy a X.2.2.1 this hT M3 (50 : Int32) hr9) (mw_cwV X 1 g_X5_77 hd_X5_draw ⟨rfl, rfl⟩ ⟨Nat.le_of_ble_eq_true rfl, Nat.le_of_ble_eq_true rfl⟩) rfl hl.1 rfl (Nat.le_of_ble_eq_true rfl) dX5_drift_83 (fun H locs hG => ?_)
      refine lv_iadd hx hb dX5_drift_86 ?_
      refine lv_topi (fun x10 ex10 => ?_)
      have hf := nm_of ex10 hf
      refine lv_istore (lv' := [(6, .int x10), (5, .int x4), (0, .ref (a this)), (1, .int v1), (3, .int v3), (4, .int v4)]) hx hb dX5_drift_87 hl (by decide) rfl (fun ls hl => ?_)
      refine lv_aload_n hx hb dX5_drift_89 rfl (lv_at hl 2 rfl) ?_
      refine lv_bipush (v := 20) hx hb dX5_drift_90 (by decide) ?_
      obtain ⟨x12, M11, hr13, hf⟩ := bd2_some hf
      refine mw_callVi (rest := []) X hG hT.1 rfl (c_X5_draw l dC dI cy a X.2.2.1 this hT M7 (20 : Int32) hr13) (mw_cwV X 1 g_X5_77 hd_X5_draw ⟨rfl, rfl⟩ ⟨Nat.le_of_ble_eq_true rfl, Nat.le_of_ble_eq_true rfl⟩) rfl hl.1 rfl (Nat.le_of_ble_eq_true rfl) dX5_drift_92 (fun H locs hG => ?_)
      refine lv_istore (lv' := [(7, .int x12), (6, .int x10), (5, .int x4), (0, .ref (a this)), (1, .int v1), (3, .int v3), (4, .int v4)]) hx hb dX5_drift_95 hl (by decide) rfl (fun ls hl => ?_)
      refine lv_iload_n hx hb dX5_drift_97 rfl (lv_at hl 5 rfl) ?_
      refine lv_aload_n hx hb dX5_drift_98 rfl (lv_at hl 3 rfl) ?_
      refine lv_iload hx hb dX5_drift_99 (lv_at hl 2 rfl) ?_
      refine lv_iload hx hb dX5_drift_101 (lv_at hl 1 rfl) ?_
      refine lv_iload hx hb dX5_drift_103 (lv_at hl 0 rfl) ?_
      obtain ⟨x15, M14, hr16, hf⟩ := bd2_some hf
      refine mw_callVi (rest := [.int v3]) X hG hT.1 rfl (c_X5_event l dC dI cy a X.2.2.1 this hT M11 x4 x10 x12 hr16) (mw_cwV X 3 g_X5_81 hd_X5_event ⟨rfl, rfl⟩ ⟨Nat.le_of_ble_eq_true rfl, Nat.le_of_ble_eq_true rfl⟩) rfl hl.1 rfl (Nat.le_of_ble_eq_true rfl) dX5_drift_105 (fun H locs hG => ?_)
      refine lv_if_le (tgt := 115) hx hb dX5_drift_108 (by decide) (fun c17 => ?_) (fun c17 => ?_)
      · have hf := itep c17 hf
        refine lv_iconst (v := 0) hx hb dX5_drift_115 (by decide) ?_
        exact w_X5_drift_L116 X hT ih hf hG (lv_sub hl [3, 4, 6] rfl)
      · have hf := iten c17 hf
        refine lv_iconst (v := 1) hx hb dX5_drift_111 (by decide) ?_
        refine lv_goto (tgt := 116) hx hb dX5_drift_112 (by decide) ?_
        exact w_X5_drift_L116 X hT ih hf hG (lv_sub hl [3, 4, 6] rfl)
set_option maxHeartbeats 4000000 in
set_option maxRecDepth 100000 in
theorem c_X5_drift (l : Launch) (dC : Nat → ClassId) (dI : Nat → Nat → Nat) (cy : Nat → ClassId) (a : Nat → Nat) (ha : injU a) (this : Nat) (hT : K5 this) (M : Mem) (v1 : Int32) (v2 : Int32) {o : (Int32 × Mem)} (hf : f_X5_drift M this v1 v2 = some o) : Met l yX5_drift (wsU yX5_drift cX5_drift 8 (some .int)) ({ frames := 3, cells := 0, slots := 0, locals := 69 } : Room) (PU dC dI cy a [.ref (a this), .int v1, .int v2] M) (QUi dC dI cy a o.1 o.2) 0 0 (AU a) := by
  refine mw_met (by decide) ha (Nat.le_of_ble_eq_true rfl) ?_
  intro p e s m below meth c ls X hG hl
  have hl : lv_has ls 8 [(0, .ref (a this)), (1, .int v1), (2, .int v2)] := hl
  have X : XU dC dI cy a p s m c [.ref (a this), .int v1, .int v2].toArray meth cX5_drift 8 RX5 (some .int) := X
  have hx := X.1.1
  have hb := X.1.2.1
  have hown := X.1.2.2.2.1
  have hts := X.1.2.2.2.2
  rw [f_X5_drift] at hf
  refine lv_iload_n hx hb dX5_drift_0 rfl (lv_at hl 1 rfl) ?_
  refine lv_i2l (v := v1.toInt64) hx hb dX5_drift_1 rfl ?_
  refine lv_lconst (v := 1) hx hb dX5_drift_2 (by decide) ?_
  refine lv_ldc2 (v := 20) hx hb hown (hts _ wd_cl_X5_73) dX5_drift_3 ?_
  obtain ⟨x1, hr2, hf⟩ := bd_some hf
  refine mw_callSi (rest := []) X hG (c_X5_in l dC dI cy a X.2.2.1  M (v1.toInt64) (1 : Int64) (20 : Int64) hr2) (mw_cwS X 3 g_X5_23 hd_X5_in ⟨rfl, rfl⟩ ⟨Nat.le_of_ble_eq_true rfl, Nat.le_of_ble_eq_true rfl⟩) rfl hl.1 rfl (Nat.le_of_ble_eq_true rfl) dX5_drift_6 (fun H locs hG => ?_)
  refine lv_if_eq (tgt := 24) hx hb dX5_drift_9 (by decide) (fun c3 => ?_) (fun c3 => ?_)
  · have hf := itep c3 hf
    exact w_X5_drift_L24 X hT hf hG (lv_sub hl [0] rfl)
  · have hf := iten c3 hf
    refine lv_iload_n hx hb dX5_drift_12 rfl (lv_at hl 2 rfl) ?_
    refine lv_i2l (v := v2.toInt64) hx hb dX5_drift_13 rfl ?_
    refine lv_lconst (v := 1) hx hb dX5_drift_14 (by decide) ?_
    refine lv_ldc2 (v := 999999) hx hb hown (hts _ wd_cl_X5_75) dX5_drift_15 ?_
    obtain ⟨x4, hr5, hf⟩ := bd_some hf
    refine mw_callSi (rest := []) X hG (c_X5_in l dC dI cy a X.2.2.1  M (v2.toInt64) (1 : Int64) (999999 : Int64) hr5) (mw_cwS X 3 g_X5_23 hd_X5_in ⟨rfl, rfl⟩ ⟨Nat.le_of_ble_eq_true rfl, Nat.le_of_ble_eq_true rfl⟩) rfl hl.1 rfl (Nat.le_of_ble_eq_true rfl) dX5_drift_18 (fun H locs hG => ?_)
    refine lv_if_ne (tgt := 27) hx hb dX5_drift_21 (by decide) (fun c6 => ?_) (fun c6 => ?_)
    · have hf := iten c6 hf
      refine lv_aload_n hx hb dX5_drift_27 rfl (lv_at hl 0 rfl) ?_
      refine gf_X5_7 X hG hT dX5_drift_28 ?_
      refine lv_iconst (v := 0) hx hb dX5_drift_31 (by decide) ?_
      obtain ⟨hi7, hf⟩ := ck_some hf
      refine mw_iald X hG hT.2.1 hi7 dX5_drift_32 ?_
      refine lv_if_ne (tgt := 39) hx hb dX5_drift_33 (by decide) (fun c8 => ?_) (fun c8 => ?_)
      · have hf := iten c8 hf
        refine lv_aload_n hx hb dX5_drift_39 rfl (lv_at hl 0 rfl) ?_
        refine lv_iload_n hx hb dX5_drift_40 rfl (lv_at hl 2 rfl) ?_
        refine lv_i2l (v := v2.toInt64) hx hb dX5_drift_41 rfl ?_
        refine pf_X5_65 X hG hT dX5_drift_42 (fun M9 H locs eM9 hG => ?_)
        have hf := nm_of eM9 hf
        refine lv_iconst (v := 0) hx hb dX5_drift_45 (by decide) ?_
        refine lv_istore_n (lv' := [(3, .int (0 : Int32)), (0, .ref (a this)), (1, .int v1), (2, .int v2)]) hx hb dX5_drift_46 rfl hl (by decide) rfl (fun ls hl => ?_)
        refine lv_iconst (v := 0) hx hb dX5_drift_47 (by decide) ?_
        refine lv_istore (lv' := [(4, .int (0 : Int32)), (3, .int (0 : Int32)), (0, .ref (a this)), (1, .int v1), (2, .int v2)]) hx hb dX5_drift_48 hl (by decide) rfl (fun ls hl => ?_)
        exact w_X5_drift_L50 X hT 1000 _ _ _ _ _ _ hf hG (lv_sub hl [2, 3, 1, 0] rfl)
      · have hf := itep c8 hf
        refine lv_ldc (v := -1000000003) hx hb hown (hts _ wd_ct_X5_48) dX5_drift_36 ?_
        obtain rfl := Option.some.inj hf
        exact mw_iret X hG dX5_drift_38
    · have hf := itep c6 hf
      exact w_X5_drift_L24 X hT hf hG (lv_sub hl [0] rfl)
/-! X5_isAhead -/
set_option maxHeartbeats 4000000 in
set_option maxRecDepth 100000 in
theorem w_X5_isAhead_L43 {l : Launch} {dC : Nat → ClassId} {dI : Nat → Nat → Nat} {cy : Nat → ClassId} {a : Nat → Nat} {p : Program} {e : Env} {s : State} {m : MethodId} {args : Array Value} {below : List Frame} {meth : Method} {c : Code} (X : XU dC dI cy a p s m c args meth cX5_isAhead 3 RX5 (some .boolean)) {M : Mem} {this : Nat} (hT : K5 this) {s0 : Int32} {o : Int32} {H : Heap} {locs : List Loc} {ls : Array Slot} (hf : f_X5_isAhead_L43 M this s0 = some o) (hG : GU dC dI cy a s.heap M H locs) (hl : lv_has ls 3 [(0, .ref (a this))]) : W p l e ({ frames := 0, cells := 0, slots := 0, locals := 0 } : Room) s m args below meth c H locs 0 0 (MQ below (QUi dC dI cy a o M) args s 0 0 (AU a)) (F0 m 43 ls [.int s0]) := by
  have hx := X.1.1
  have hb := X.1.2.1
  have hown := X.1.2.2.2.1
  have hts := X.1.2.2.2.2
  rw [f_X5_isAhead_L43] at hf
  obtain ⟨hz1, hf⟩ := zk_some hf
  obtain rfl := Option.some.inj hf
  exact mw_zret X hG (zk_nar hz1) dX5_isAhead_43
set_option maxHeartbeats 4000000 in
set_option maxRecDepth 100000 in
theorem w_X5_isAhead_L114 {l : Launch} {dC : Nat → ClassId} {dI : Nat → Nat → Nat} {cy : Nat → ClassId} {a : Nat → Nat} {p : Program} {e : Env} {s : State} {m : MethodId} {args : Array Value} {below : List Frame} {meth : Method} {c : Code} (X : XU dC dI cy a p s m c args meth cX5_isAhead 3 RX5 (some .boolean)) {M : Mem} {this : Nat} (hT : K5 this) {s0 : Int32} {o : Int32} {H : Heap} {locs : List Loc} {ls : Array Slot} (hf : f_X5_isAhead_L114 M this s0 = some o) (hG : GU dC dI cy a s.heap M H locs) (hl : lv_has ls 3 [(0, .ref (a this))]) : W p l e ({ frames := 0, cells := 0, slots := 0, locals := 0 } : Room) s m args below meth c H locs 0 0 (MQ below (QUi dC dI cy a o M) args s 0 0 (AU a)) (F0 m 114 ls [.int s0]) := by
  have hx := X.1.1
  have hb := X.1.2.1
  have hown := X.1.2.2.2.1
  have hts := X.1.2.2.2.2
  rw [f_X5_isAhead_L114] at hf
  obtain ⟨hz1, hf⟩ := zk_some hf
  obtain rfl := Option.some.inj hf
  exact mw_zret X hG (zk_nar hz1) dX5_isAhead_114
set_option maxHeartbeats 4000000 in
set_option maxRecDepth 100000 in
theorem c_X5_isAhead (l : Launch) (dC : Nat → ClassId) (dI : Nat → Nat → Nat) (cy : Nat → ClassId) (a : Nat → Nat) (ha : injU a) (this : Nat) (hT : K5 this) (M : Mem) (v1 : Int32) (v2 : Int32) {o : Int32} (hf : f_X5_isAhead M this v1 v2 = some o) : Met l yX5_isAhead (wsU yX5_isAhead cX5_isAhead 3 (some .boolean)) ({ frames := 0, cells := 0, slots := 0, locals := 0 } : Room) (PU dC dI cy a [.ref (a this), .int v1, .int v2] M) (QUi dC dI cy a o M) 0 0 (AU a) := by
  refine mw_met (by decide) ha (Nat.le_of_ble_eq_true rfl) ?_
  intro p e s m below meth c ls X hG hl
  have hl : lv_has ls 3 [(0, .ref (a this)), (1, .int v1), (2, .int v2)] := hl
  have X : XU dC dI cy a p s m c [.ref (a this), .int v1, .int v2].toArray meth cX5_isAhead 3 RX5 (some .boolean) := X
  have hx := X.1.1
  have hb := X.1.2.1
  have hown := X.1.2.2.2.1
  have hts := X.1.2.2.2.2
  rw [f_X5_isAhead] at hf
  refine lv_aload_n hx hb dX5_isAhead_0 rfl (lv_at hl 0 rfl) ?_
  refine gf_X5_7 X hG hT dX5_isAhead_1 ?_
  refine lv_iload_n hx hb dX5_isAhead_4 rfl (lv_at hl 1 rfl) ?_
  refine lv_iconst (v := 1) hx hb dX5_isAhead_5 (by decide) ?_
  refine lv_iadd hx hb dX5_isAhead_6 ?_
  obtain ⟨hi1, hf⟩ := ck_some hf
  refine mw_iald X hG hT.2.1 hi1 dX5_isAhead_7 ?_
  refine lv_aload_n hx hb dX5_isAhead_8 rfl (lv_at hl 0 rfl) ?_
  refine gf_X5_7 X hG hT dX5_isAhead_9 ?_
  refine lv_iload_n hx hb dX5_isAhead_12 rfl (lv_at hl 2 rfl) ?_
  refine lv_iconst (v := 1) hx hb dX5_isAhead_13 (by decide) ?_
  refine lv_iadd hx hb dX5_isAhead_14 ?_
  obtain ⟨hi2, hf⟩ := ck_some hf
  refine mw_iald X hG hT.2.1 hi2 dX5_isAhead_15 ?_
  refine lv_icmp_eq (tgt := 44) hx hb dX5_isAhead_16 (by decide) (fun c3 => ?_) (fun c3 => ?_)
  · have hf := itep c3 hf
    refine lv_aload_n hx hb dX5_isAhead_44 rfl (lv_at hl 0 rfl) ?_
    refine gf_X5_7 X hG hT dX5_isAhead_45 ?_
    refine lv_iload_n hx hb dX5_isAhead_48 rfl (lv_at hl 1 rfl) ?_
    refine lv_iconst (v := 2) hx hb dX5_isAhead_49 (by decide) ?_
    refine lv_iadd hx hb dX5_isAhead_50 ?_
    obtain ⟨hi4, hf⟩ := ck_some hf
    refine mw_iald X hG hT.2.1 hi4 dX5_isAhead_51 ?_
    refine lv_aload_n hx hb dX5_isAhead_52 rfl (lv_at hl 0 rfl) ?_
    refine gf_X5_7 X hG hT dX5_isAhead_53 ?_
    refine lv_iload_n hx hb dX5_isAhead_56 rfl (lv_at hl 2 rfl) ?_
    refine lv_iconst (v := 2) hx hb dX5_isAhead_57 (by decide) ?_
    refine lv_iadd hx hb dX5_isAhead_58 ?_
    obtain ⟨hi5, hf⟩ := ck_some hf
    refine mw_iald X hG hT.2.1 hi5 dX5_isAhead_59 ?_
    refine lv_icmp_eq (tgt := 90) hx hb dX5_isAhead_60 (by decide) (fun c6 => ?_) (fun c6 => ?_)
    · have hf := itep c6 hf
      refine lv_aload_n hx hb dX5_isAhead_90 rfl (lv_at hl 0 rfl) ?_
      refine gf_X5_7 X hG hT dX5_isAhead_91 ?_
      refine lv_iload_n hx hb dX5_isAhead_94 rfl (lv_at hl 1 rfl) ?_
      refine lv_iconst (v := 4) hx hb dX5_isAhead_95 (by decide) ?_
      refine lv_iadd hx hb dX5_isAhead_96 ?_
      obtain ⟨hi7, hf⟩ := ck_some hf
      refine mw_iald X hG hT.2.1 hi7 dX5_isAhead_97 ?_
      refine lv_aload_n hx hb dX5_isAhead_98 rfl (lv_at hl 0 rfl) ?_
      refine gf_X5_7 X hG hT dX5_isAhead_99 ?_
      refine lv_iload_n hx hb dX5_isAhead_102 rfl (lv_at hl 2 rfl) ?_
      refine lv_iconst (v := 4) hx hb dX5_isAhead_103 (by decide) ?_
      refine lv_iadd hx hb dX5_isAhead_104 ?_
      obtain ⟨hi8, hf⟩ := ck_some hf
      refine mw_iald X hG hT.2.1 hi8 dX5_isAhead_105 ?_
      refine lv_icmp_ge (tgt := 113) hx hb dX5_isAhead_106 (by decide) (fun c9 => ?_) (fun c9 => ?_)
      · have hf := itep c9 hf
        refine lv_iconst (v := 0) hx hb dX5_isAhead_113 (by decide) ?_
        exact w_X5_isAhead_L114 X hT hf hG (lv_sub hl [0] rfl)
      · have hf := iten c9 hf
        refine lv_iconst (v := 1) hx hb dX5_isAhead_109 (by decide) ?_
        refine lv_goto (tgt := 114) hx hb dX5_isAhead_110 (by decide) ?_
        exact w_X5_isAhead_L114 X hT hf hG (lv_sub hl [0] rfl)
    · have hf := iten c6 hf
      refine lv_aload_n hx hb dX5_isAhead_63 rfl (lv_at hl 0 rfl) ?_
      refine gf_X5_7 X hG hT dX5_isAhead_64 ?_
      refine lv_iload_n hx hb dX5_isAhead_67 rfl (lv_at hl 1 rfl) ?_
      refine lv_iconst (v := 2) hx hb dX5_isAhead_68 (by decide) ?_
      refine lv_iadd hx hb dX5_isAhead_69 ?_
      obtain ⟨hi10, hf⟩ := ck_some hf
      refine mw_iald X hG hT.2.1 hi10 dX5_isAhead_70 ?_
      refine lv_aload_n hx hb dX5_isAhead_71 rfl (lv_at hl 0 rfl) ?_
      refine gf_X5_7 X hG hT dX5_isAhead_72 ?_
      refine lv_iload_n hx hb dX5_isAhead_75 rfl (lv_at hl 2 rfl) ?_
      refine lv_iconst (v := 2) hx hb dX5_isAhead_76 (by decide) ?_
      refine lv_iadd hx hb dX5_isAhead_77 ?_
      obtain ⟨hi11, hf⟩ := ck_some hf
      refine mw_iald X hG hT.2.1 hi11 dX5_isAhead_78 ?_
      refine lv_icmp_ge (tgt := 86) hx hb dX5_isAhead_79 (by decide) (fun c12 => ?_) (fun c12 => ?_)
      · have hf := itep c12 hf
        refine lv_iconst (v := 0) hx hb dX5_isAhead_86 (by decide) ?_
        refine lv_goto (tgt := 114) hx hb dX5_isAhead_87 (by decide) ?_
        exact w_X5_isAhead_L114 X hT hf hG (lv_sub hl [0] rfl)
      · have hf := iten c12 hf
        refine lv_iconst (v := 1) hx hb dX5_isAhead_82 (by decide) ?_
        refine lv_goto (tgt := 114) hx hb dX5_isAhead_83 (by decide) ?_
        exact w_X5_isAhead_L114 X hT hf hG (lv_sub hl [0] rfl)
  · have hf := iten c3 hf
    refine lv_aload_n hx hb dX5_isAhead_19 rfl (lv_at hl 0 rfl) ?_
    refine gf_X5_7 X hG hT dX5_isAhead_20 ?_
    refine lv_iload_n hx hb dX5_isAhead_23 rfl (lv_at hl 1 rfl) ?_
    refine lv_iconst (v := 1) hx hb dX5_isAhead_24 (by decide) ?_
    refine lv_iadd hx hb dX5_isAhead_25 ?_
    obtain ⟨hi13, hf⟩ := ck_some hf
    refine mw_iald X hG hT.2.1 hi13 dX5_isAhead_26 ?_
    refine lv_aload_n hx hb dX5_isAhead_27 rfl (lv_at hl 0 rfl) ?_
    refine gf_X5_7 X hG hT dX5_isAhead_28 ?_
    refine lv_iload_n hx hb dX5_isAhead_31 rfl (lv_at hl 2 rfl) ?_
    refine lv_iconst (v := 1) hx hb dX5_isAhead_32 (by decide) ?_
    refine lv_iadd hx hb dX5_isAhead_33 ?_
    obtain ⟨hi14, hf⟩ := ck_some hf
    refine mw_iald X hG hT.2.1 hi14 dX5_isAhead_34 ?_
    refine lv_icmp_ge (tgt := 42) hx hb dX5_isAhead_35 (by decide) (fun c15 => ?_) (fun c15 => ?_)
    · have hf := itep c15 hf
      refine lv_iconst (v := 0) hx hb dX5_isAhead_42 (by decide) ?_
      exact w_X5_isAhead_L43 X hT hf hG (lv_sub hl [0] rfl)
    · have hf := iten c15 hf
      refine lv_iconst (v := 1) hx hb dX5_isAhead_38 (by decide) ?_
      refine lv_goto (tgt := 43) hx hb dX5_isAhead_39 (by decide) ?_
      exact w_X5_isAhead_L43 X hT hf hG (lv_sub hl [0] rfl)
/-! X5_firstOf -/
set_option maxHeartbeats 4000000 in
set_option maxRecDepth 100000 in
theorem w_X5_firstOf_L64 {l : Launch} {dC : Nat → ClassId} {dI : Nat → Nat → Nat} {cy : Nat → ClassId} {a : Nat → Nat} {p : Program} {e : Env} {s : State} {m : MethodId} {args : Array Value} {below : List Frame} {meth : Method} {c : Code} (X : XU dC dI cy a p s m c args meth cX5_firstOf 6 RX5 (some .int)) {M : Mem} {this : Nat} (hT : K5 this) {v1 : Int32} {v2 : Int32} {v4 : Int32} {s0 : Int32} {o : Int32} {k5 : Int32 → Int32 → Option Int32} (hk5 : ∀ (v3 : Int32) (v4 : Int32) (H : Heap) (locs : List Loc) (ls : Array Slot), k5 v3 v4 = some o → GU dC dI cy a s.heap M H locs → lv_has ls 6 [(0, .ref (a this)), (1, .int v1), (2, .int v2), (3, .int v3), (4, .int v4)] → W p l e ({ frames := 1, cells := 0, slots := 0, locals := 22 } : Room) s m args below meth c H locs 0 0 (MQ below (QUi dC dI cy a o M) args s 0 0 (AU a)) (F0 m 5 ls [])) {H : Heap} {locs : List Loc} {ls : Array Slot} (hf : f_X5_firstOf_L64 k5 M this v1 v2 v4 s0 = some o) (hG : GU dC dI cy a s.heap M H locs) (hl : lv_has ls 6 [(0, .ref (a this)), (1, .int v1), (2, .int v2), (4, .int v4)]) : W p l e ({ frames := 1, cells := 0, slots := 0, locals := 22 } : Room) s m args below meth c H locs 0 0 (MQ below (QUi dC dI cy a o M) args s 0 0 (AU a)) (F0 m 64 ls [.int s0]) := by
  have hx := X.1.1
  have hb := X.1.2.1
  have hown := X.1.2.2.2.1
  have hts := X.1.2.2.2.2
  rw [f_X5_firstOf_L64] at hf
  refine lv_istore_n (lv' := [(3, .int s0), (0, .ref (a this)), (1, .int v1), (2, .int v2), (4, .int v4)]) hx hb dX5_firstOf_64 rfl hl (by decide) rfl (fun ls hl => ?_)
  obtain ⟨x1, ex1⟩ : ∃ y : Int32, y = v4 + (1 : Int32) := ⟨_, rfl⟩
  have hf := nm_of ex1 hf
  refine lv_iinc (v := x1) (lv' := [(4, .int x1), (3, .int s0), (0, .ref (a this)), (1, .int v1), (2, .int v2)]) hx hb dX5_firstOf_65 hl (k := 4) rfl (by rw [ex1]; rfl) (by decide) rfl (fun ls hl => ?_)
  refine lv_goto (tgt := 5) hx hb dX5_firstOf_68 (by decide) ?_
  exact hk5 _ _ _ _ _ hf hG (lv_sub hl [2, 3, 4, 1, 0] rfl)
set_option maxHeartbeats 4000000 in
set_option maxRecDepth 100000 in
theorem w_X5_firstOf_L58 {l : Launch} {dC : Nat → ClassId} {dI : Nat → Nat → Nat} {cy : Nat → ClassId} {a : Nat → Nat} {p : Program} {e : Env} {s : State} {m : MethodId} {args : Array Value} {below : List Frame} {meth : Method} {c : Code} (X : XU dC dI cy a p s m c args meth cX5_firstOf 6 RX5 (some .int)) {M : Mem} {this : Nat} (hT : K5 this) {v1 : Int32} {v2 : Int32} {v4 : Int32} {v5 : Int32} {o : Int32} {k5 : Int32 → Int32 → Option Int32} (hk5 : ∀ (v3 : Int32) (v4 : Int32) (H : Heap) (locs : List Loc) (ls : Array Slot), k5 v3 v4 = some o → GU dC dI cy a s.heap M H locs → lv_has ls 6 [(0, .ref (a this)), (1, .int v1), (2, .int v2), (3, .int v3), (4, .int v4)] → W p l e ({ frames := 1, cells := 0, slots := 0, locals := 22 } : Room) s m args below meth c H locs 0 0 (MQ below (QUi dC dI cy a o M) args s 0 0 (AU a)) (F0 m 5 ls [])) {H : Heap} {locs : List Loc} {ls : Array Slot} (hf : f_X5_firstOf_L58 k5 M this v1 v2 v4 v5 = some o) (hG : GU dC dI cy a s.heap M H locs) (hl : lv_has ls 6 [(0, .ref (a this)), (1, .int v1), (2, .int v2), (4, .int v4), (5, .int v5)]) : W p l e ({ frames := 1, cells := 0, slots := 0, locals := 22 } : Room) s m args below meth c H locs 0 0 (MQ below (QUi dC dI cy a o M) args s 0 0 (AU a)) (F0 m 58 ls []) := by
  have hx := X.1.1
  have hb := X.1.2.1
  have hown := X.1.2.2.2.1
  have hts := X.1.2.2.2.2
  rw [f_X5_firstOf_L58] at hf
  refine lv_iload hx hb dX5_firstOf_58 (lv_at hl 4 rfl) ?_
  refine lv_goto (tgt := 64) hx hb dX5_firstOf_60 (by decide) ?_
  exact w_X5_firstOf_L64 X hT hk5 hf hG (lv_sub hl [0, 1, 2, 3] rfl)
set_option maxHeartbeats 4000000 in
set_option maxRecDepth 100000 in
theorem w_X5_firstOf_L63 {l : Launch} {dC : Nat → ClassId} {dI : Nat → Nat → Nat} {cy : Nat → ClassId} {a : Nat → Nat} {p : Program} {e : Env} {s : State} {m : MethodId} {args : Array Value} {below : List Frame} {meth : Method} {c : Code} (X : XU dC dI cy a p s m c args meth cX5_firstOf 6 RX5 (some .int)) {M : Mem} {this : Nat} (hT : K5 this) {v1 : Int32} {v2 : Int32} {v3 : Int32} {v4 : Int32} {o : Int32} {k5 : Int32 → Int32 → Option Int32} (hk5 : ∀ (v3 : Int32) (v4 : Int32) (H : Heap) (locs : List Loc) (ls : Array Slot), k5 v3 v4 = some o → GU dC dI cy a s.heap M H locs → lv_has ls 6 [(0, .ref (a this)), (1, .int v1), (2, .int v2), (3, .int v3), (4, .int v4)] → W p l e ({ frames := 1, cells := 0, slots := 0, locals := 22 } : Room) s m args below meth c H locs 0 0 (MQ below (QUi dC dI cy a o M) args s 0 0 (AU a)) (F0 m 5 ls [])) {H : Heap} {locs : List Loc} {ls : Array Slot} (hf : f_X5_firstOf_L63 k5 M this v1 v2 v3 v4 = some o) (hG : GU dC dI cy a s.heap M H locs) (hl : lv_has ls 6 [(0, .ref (a this)), (1, .int v1), (2, .int v2), (3, .int v3), (4, .int v4)]) : W p l e ({ frames := 1, cells := 0, slots := 0, locals := 22 } : Room) s m args below meth c H locs 0 0 (MQ below (QUi dC dI cy a o M) args s 0 0 (AU a)) (F0 m 63 ls []) := by
  have hx := X.1.1
  have hb := X.1.2.1
  have hown := X.1.2.2.2.1
  have hts := X.1.2.2.2.2
  rw [f_X5_firstOf_L63] at hf
  refine lv_iload_n hx hb dX5_firstOf_63 rfl (lv_at hl 3 rfl) ?_
  exact w_X5_firstOf_L64 X hT hk5 hf hG (lv_sub hl [0, 1, 2, 4] rfl)
set_option maxHeartbeats 4000000 in
set_option maxRecDepth 100000 in
theorem w_X5_firstOf_L5 {l : Launch} {dC : Nat → ClassId} {dI : Nat → Nat → Nat} {cy : Nat → ClassId} {a : Nat → Nat} {p : Program} {e : Env} {s : State} {m : MethodId} {args : Array Value} {below : List Frame} {meth : Method} {c : Code} (X : XU dC dI cy a p s m c args meth cX5_firstOf 6 RX5 (some .int)) {M : Mem} {this : Nat} (hT : K5 this) {v1 : Int32} {v2 : Int32} {o : Int32} : ∀ (n : Nat) (v3 : Int32) (v4 : Int32) (H : Heap) (locs : List Loc) (ls : Array Slot), f_X5_firstOf_L5 M this v1 v2 n v3 v4 = some o → GU dC dI cy a s.heap M H locs → lv_has ls 6 [(0, .ref (a this)), (1, .int v1), (2, .int v2), (3, .int v3), (4, .int v4)] → W p l e ({ frames := 1, cells := 0, slots := 0, locals := 22 } : Room) s m args below meth c H locs 0 0 (MQ below (QUi dC dI cy a o M) args s 0 0 (AU a)) (F0 m 5 ls []) := by
  have hx := X.1.1
  have hb := X.1.2.1
  have hown := X.1.2.2.2.1
  have hts := X.1.2.2.2.2
  intro n
  induction n with
  | zero => intro v3 v4 H locs ls hf; cases hf
  | succ n ih =>
    intro v3 v4 H locs ls hf hG hl
    rw [f_X5_firstOf_L5] at hf
    refine lv_iload hx hb dX5_firstOf_5 (lv_at hl 4 rfl) ?_
    refine lv_aload_n hx hb dX5_firstOf_7 rfl (lv_at hl 0 rfl) ?_
    refine gf_X5_7 X hG hT dX5_firstOf_8 ?_
    refine lv_iload_n hx hb dX5_firstOf_11 rfl (lv_at hl 1 rfl) ?_
    refine lv_bipush (v := 9) hx hb dX5_firstOf_12 (by decide) ?_
    refine lv_iadd hx hb dX5_firstOf_14 ?_
    obtain ⟨hi1, hf⟩ := ck_some hf
    refine mw_iald X hG hT.2.1 hi1 dX5_firstOf_15 ?_
    refine lv_icmp_ge (tgt := 71) hx hb dX5_firstOf_16 (by decide) (fun c2 => ?_) (fun c2 => ?_)
    · have hf := itep c2 hf
      refine lv_iload_n hx hb dX5_firstOf_71 rfl (lv_at hl 3 rfl) ?_
      obtain rfl := Option.some.inj hf
      exact mw_iret X hG dX5_firstOf_72
    · have hf := iten c2 hf
      refine lv_iload_n hx hb dX5_firstOf_19 rfl (lv_at hl 1 rfl) ?_
      refine lv_bipush (v := 112) hx hb dX5_firstOf_20 (by decide) ?_
      refine lv_iadd hx hb dX5_firstOf_22 ?_
      refine lv_iconst (v := 5) hx hb dX5_firstOf_23 (by decide) ?_
      refine lv_iload hx hb dX5_firstOf_24 (lv_at hl 4 rfl) ?_
      refine lv_imul hx hb dX5_firstOf_26 ?_
      refine lv_iadd hx hb dX5_firstOf_27 ?_
      refine lv_topi (fun x3 ex3 => ?_)
      have hf := nm_of ex3 hf
      refine lv_istore (lv' := [(5, .int x3), (0, .ref (a this)), (1, .int v1), (2, .int v2), (3, .int v3), (4, .int v4)]) hx hb dX5_firstOf_28 hl (by decide) rfl (fun ls hl => ?_)
      refine lv_aload_n hx hb dX5_firstOf_30 rfl (lv_at hl 1 rfl) ?_
      refine gf_X5_7 X hG hT dX5_firstOf_31 ?_
      refine lv_iload hx hb dX5_firstOf_34 (lv_at hl 0 rfl) ?_
      refine lv_iconst (v := 0) hx hb dX5_firstOf_36 (by decide) ?_
      refine lv_iadd hx hb dX5_firstOf_37 ?_
      obtain ⟨hi4, hf⟩ := ck_some hf
      refine mw_iald X hG hT.2.1 hi4 dX5_firstOf_38 ?_
      refine lv_iload_n hx hb dX5_firstOf_39 rfl (lv_at hl 3 rfl) ?_
      refine lv_icmp_ne (tgt := 63) hx hb dX5_firstOf_40 (by decide) (fun c5 => ?_) (fun c5 => ?_)
      · have hf := iten c5 hf
        exact w_X5_firstOf_L63 X hT ih hf hG (lv_sub hl [1, 2, 3, 4, 5] rfl)
      · have hf := itep c5 hf
        refine lv_iload_n hx hb dX5_firstOf_43 rfl (lv_at hl 4 rfl) ?_
        refine lv_iconst (v := -1) hx hb dX5_firstOf_44 (by decide) ?_
        refine lv_icmp_eq (tgt := 58) hx hb dX5_firstOf_45 (by decide) (fun c6 => ?_) (fun c6 => ?_)
        · have hf := itep c6 hf
          exact w_X5_firstOf_L58 X hT ih hf hG (lv_sub hl [1, 2, 3, 5, 0] rfl)
        · have hf := iten c6 hf
          refine lv_aload_n hx hb dX5_firstOf_48 rfl (lv_at hl 1 rfl) ?_
          refine lv_iload hx hb dX5_firstOf_49 (lv_at hl 0 rfl) ?_
          refine lv_iload_n hx hb dX5_firstOf_51 rfl (lv_at hl 4 rfl) ?_
          obtain ⟨x7, hr8, hf⟩ := bd_some hf
          refine mw_callVi (rest := []) X hG hT.1 rfl (c_X5_isAhead l dC dI cy a X.2.2.1 this hT M x3 v3 hr8) (mw_cwV X 2 g_X5_85 hd_X5_isAhead ⟨rfl, rfl⟩ ⟨Nat.le_of_ble_eq_true rfl, Nat.le_of_ble_eq_true rfl⟩) rfl hl.1 rfl (Nat.le_of_ble_eq_true rfl) dX5_firstOf_52 (fun H locs hG => ?_)
          refine lv_if_eq (tgt := 63) hx hb dX5_firstOf_55 (by decide) (fun c9 => ?_) (fun c9 => ?_)
          · have hf := itep c9 hf
            exact w_X5_firstOf_L63 X hT ih hf hG (lv_sub hl [1, 2, 3, 4, 5] rfl)
          · have hf := iten c9 hf
            exact w_X5_firstOf_L58 X hT ih hf hG (lv_sub hl [1, 2, 3, 5, 0] rfl)
set_option maxHeartbeats 4000000 in
set_option maxRecDepth 100000 in
theorem c_X5_firstOf (l : Launch) (dC : Nat → ClassId) (dI : Nat → Nat → Nat) (cy : Nat → ClassId) (a : Nat → Nat) (ha : injU a) (this : Nat) (hT : K5 this) (M : Mem) (v1 : Int32) (v2 : Int32) {o : Int32} (hf : f_X5_firstOf M this v1 v2 = some o) : Met l yX5_firstOf (wsU yX5_firstOf cX5_firstOf 6 (some .int)) ({ frames := 1, cells := 0, slots := 0, locals := 22 } : Room) (PU dC dI cy a [.ref (a this), .int v1, .int v2] M) (QUi dC dI cy a o M) 0 0 (AU a) := by
  refine mw_met (by decide) ha (Nat.le_of_ble_eq_true rfl) ?_
  intro p e s m below meth c ls X hG hl
  have hl : lv_has ls 6 [(0, .ref (a this)), (1, .int v1), (2, .int v2)] := hl
  have X : XU dC dI cy a p s m c [.ref (a this), .int v1, .int v2].toArray meth cX5_firstOf 6 RX5 (some .int) := X
  have hx := X.1.1
  have hb := X.1.2.1
  have hown := X.1.2.2.2.1
  have hts := X.1.2.2.2.2
  rw [f_X5_firstOf] at hf
  refine lv_iconst (v := -1) hx hb dX5_firstOf_0 (by decide) ?_
  refine lv_istore_n (lv' := [(3, .int (-1 : Int32)), (0, .ref (a this)), (1, .int v1), (2, .int v2)]) hx hb dX5_firstOf_1 rfl hl (by decide) rfl (fun ls hl => ?_)
  refine lv_iconst (v := 0) hx hb dX5_firstOf_2 (by decide) ?_
  refine lv_istore (lv' := [(4, .int (0 : Int32)), (3, .int (-1 : Int32)), (0, .ref (a this)), (1, .int v1), (2, .int v2)]) hx hb dX5_firstOf_3 hl (by decide) rfl (fun ls hl => ?_)
  exact w_X5_firstOf_L5 X hT 1000 _ _ _ _ _ hf hG (lv_sub hl [2, 3, 4, 1, 0] rfl)
/-! X5_firstTime -/
set_option maxHeartbeats 4000000 in
set_option maxRecDepth 100000 in
theorem w_X5_firstTime_L25 {l : Launch} {dC : Nat → ClassId} {dI : Nat → Nat → Nat} {cy : Nat → ClassId} {a : Nat → Nat} {p : Program} {e : Env} {s : State} {m : MethodId} {args : Array Value} {below : List Frame} {meth : Method} {c : Code} (X : XU dC dI cy a p s m c args meth cX5_firstTime 4 RX5 (some .int)) {M : Mem} {this : Nat} (hT : K5 this) {s0 : Int32} {o : Int32} {H : Heap} {locs : List Loc} {ls : Array Slot} (hf : f_X5_firstTime_L25 M this s0 = some o) (hG : GU dC dI cy a s.heap M H locs) (hl : lv_has ls 4 [(0, .ref (a this))]) : W p l e ({ frames := 2, cells := 0, slots := 0, locals := 47 } : Room) s m args below meth c H locs 0 0 (MQ below (QUi dC dI cy a o M) args s 0 0 (AU a)) (F0 m 25 ls [.int s0]) := by
  have hx := X.1.1
  have hb := X.1.2.1
  have hown := X.1.2.2.2.1
  have hts := X.1.2.2.2.2
  rw [f_X5_firstTime_L25] at hf
  obtain rfl := Option.some.inj hf
  exact mw_iret X hG dX5_firstTime_25
set_option maxHeartbeats 4000000 in
set_option maxRecDepth 100000 in
theorem c_X5_firstTime (l : Launch) (dC : Nat → ClassId) (dI : Nat → Nat → Nat) (cy : Nat → ClassId) (a : Nat → Nat) (ha : injU a) (this : Nat) (hT : K5 this) (M : Mem) (v1 : Int32) (v2 : Int32) {o : Int32} (hf : f_X5_firstTime M this v1 v2 = some o) : Met l yX5_firstTime (wsU yX5_firstTime cX5_firstTime 4 (some .int)) ({ frames := 2, cells := 0, slots := 0, locals := 47 } : Room) (PU dC dI cy a [.ref (a this), .int v1, .int v2] M) (QUi dC dI cy a o M) 0 0 (AU a) := by
  refine mw_met (by decide) ha (Nat.le_of_ble_eq_true rfl) ?_
  intro p e s m below meth c ls X hG hl
  have hl : lv_has ls 4 [(0, .ref (a this)), (1, .int v1), (2, .int v2)] := hl
  have X : XU dC dI cy a p s m c [.ref (a this), .int v1, .int v2].toArray meth cX5_firstTime 4 RX5 (some .int) := X
  have hx := X.1.1
  have hb := X.1.2.1
  have hown := X.1.2.2.2.1
  have hts := X.1.2.2.2.2
  rw [f_X5_firstTime] at hf
  refine lv_aload_n hx hb dX5_firstTime_0 rfl (lv_at hl 0 rfl) ?_
  refine lv_iload_n hx hb dX5_firstTime_1 rfl (lv_at hl 1 rfl) ?_
  refine lv_iload_n hx hb dX5_firstTime_2 rfl (lv_at hl 2 rfl) ?_
  obtain ⟨x1, hr2, hf⟩ := bd_some hf
  refine mw_callVi (rest := []) X hG hT.1 rfl (c_X5_firstOf l dC dI cy a X.2.2.1 this hT M v1 v2 hr2) (mw_cwV X 2 g_X5_88 hd_X5_firstOf ⟨rfl, rfl⟩ ⟨Nat.le_of_ble_eq_true rfl, Nat.le_of_ble_eq_true rfl⟩) rfl hl.1 rfl (Nat.le_of_ble_eq_true rfl) dX5_firstTime_3 (fun H locs hG => ?_)
  refine lv_istore_n (lv' := [(3, .int x1), (0, .ref (a this)), (1, .int v1), (2, .int v2)]) hx hb dX5_firstTime_6 rfl hl (by decide) rfl (fun ls hl => ?_)
  refine lv_iload_n hx hb dX5_firstTime_7 rfl (lv_at hl 0 rfl) ?_
  refine lv_iconst (v := -1) hx hb dX5_firstTime_8 (by decide) ?_
  refine lv_icmp_ne (tgt := 17) hx hb dX5_firstTime_9 (by decide) (fun c3 => ?_) (fun c3 => ?_)
  · have hf := iten c3 hf
    refine lv_aload_n hx hb dX5_firstTime_17 rfl (lv_at hl 1 rfl) ?_
    refine gf_X5_7 X hG hT dX5_firstTime_18 ?_
    refine lv_iload_n hx hb dX5_firstTime_21 rfl (lv_at hl 0 rfl) ?_
    refine lv_iconst (v := 1) hx hb dX5_firstTime_22 (by decide) ?_
    refine lv_iadd hx hb dX5_firstTime_23 ?_
    obtain ⟨hi4, hf⟩ := ck_some hf
    refine mw_iald X hG hT.2.1 hi4 dX5_firstTime_24 ?_
    exact w_X5_firstTime_L25 X hT hf hG (lv_sub hl [1] rfl)
  · have hf := itep c3 hf
    refine lv_ldc (v := 99999999) hx hb hown (hts _ wd_ct_X5_91) dX5_firstTime_12 ?_
    refine lv_goto (tgt := 25) hx hb dX5_firstTime_14 (by decide) ?_
    exact w_X5_firstTime_L25 X hT hf hG (lv_sub hl [1] rfl)
/-! X5_leastTo -/
set_option maxHeartbeats 4000000 in
set_option maxRecDepth 100000 in
theorem w_X5_leastTo_L67 {l : Launch} {dC : Nat → ClassId} {dI : Nat → Nat → Nat} {cy : Nat → ClassId} {a : Nat → Nat} {p : Program} {e : Env} {s : State} {m : MethodId} {args : Array Value} {below : List Frame} {meth : Method} {c : Code} (X : XU dC dI cy a p s m c args meth cX5_leastTo 4 RX5 (some .int)) {M : Mem} {this : Nat} (hT : K5 this) {v1 : Int32} {v3 : Int32} {s0 : Int32} {o : Int32} {k4 : Int32 → Int32 → Option Int32} (hk4 : ∀ (v2 : Int32) (v3 : Int32) (H : Heap) (locs : List Loc) (ls : Array Slot), k4 v2 v3 = some o → GU dC dI cy a s.heap M H locs → lv_has ls 4 [(0, .ref (a this)), (1, .int v1), (2, .int v2), (3, .int v3)] → W p l e ({ frames := 1, cells := 0, slots := 0, locals := 21 } : Room) s m args below meth c H locs 0 0 (MQ below (QUi dC dI cy a o M) args s 0 0 (AU a)) (F0 m 4 ls [])) {H : Heap} {locs : List Loc} {ls : Array Slot} (hf : f_X5_leastTo_L67 k4 M this v1 v3 s0 = some o) (hG : GU dC dI cy a s.heap M H locs) (hl : lv_has ls 4 [(0, .ref (a this)), (1, .int v1), (3, .int v3)]) : W p l e ({ frames := 1, cells := 0, slots := 0, locals := 21 } : Room) s m args below meth c H locs 0 0 (MQ below (QUi dC dI cy a o M) args s 0 0 (AU a)) (F0 m 67 ls [.int s0]) := by
  have hx := X.1.1
  have hb := X.1.2.1
  have hown := X.1.2.2.2.1
  have hts := X.1.2.2.2.2
  rw [f_X5_leastTo_L67] at hf
  refine lv_istore_n (lv' := [(2, .int s0), (0, .ref (a this)), (1, .int v1), (3, .int v3)]) hx hb dX5_leastTo_67 rfl hl (by decide) rfl (fun ls hl => ?_)
  obtain ⟨x1, ex1⟩ : ∃ y : Int32, y = v3 + (1 : Int32) := ⟨_, rfl⟩
  have hf := nm_of ex1 hf
  refine lv_iinc (v := x1) (lv' := [(3, .int x1), (2, .int s0), (0, .ref (a this)), (1, .int v1)]) hx hb dX5_leastTo_68 hl (k := 3) rfl (by rw [ex1]; rfl) (by decide) rfl (fun ls hl => ?_)
  refine lv_goto (tgt := 4) hx hb dX5_leastTo_71 (by decide) ?_
  exact hk4 _ _ _ _ _ hf hG (lv_sub hl [2, 3, 1, 0] rfl)
set_option maxHeartbeats 4000000 in
set_option maxRecDepth 100000 in
theorem w_X5_leastTo_L62 {l : Launch} {dC : Nat → ClassId} {dI : Nat → Nat → Nat} {cy : Nat → ClassId} {a : Nat → Nat} {p : Program} {e : Env} {s : State} {m : MethodId} {args : Array Value} {below : List Frame} {meth : Method} {c : Code} (X : XU dC dI cy a p s m c args meth cX5_leastTo 4 RX5 (some .int)) {M : Mem} {this : Nat} (hT : K5 this) {v1 : Int32} {v3 : Int32} {o : Int32} {k4 : Int32 → Int32 → Option Int32} (hk4 : ∀ (v2 : Int32) (v3 : Int32) (H : Heap) (locs : List Loc) (ls : Array Slot), k4 v2 v3 = some o → GU dC dI cy a s.heap M H locs → lv_has ls 4 [(0, .ref (a this)), (1, .int v1), (2, .int v2), (3, .int v3)] → W p l e ({ frames := 1, cells := 0, slots := 0, locals := 21 } : Room) s m args below meth c H locs 0 0 (MQ below (QUi dC dI cy a o M) args s 0 0 (AU a)) (F0 m 4 ls [])) {H : Heap} {locs : List Loc} {ls : Array Slot} (hf : f_X5_leastTo_L62 k4 M this v1 v3 = some o) (hG : GU dC dI cy a s.heap M H locs) (hl : lv_has ls 4 [(0, .ref (a this)), (1, .int v1), (3, .int v3)]) : W p l e ({ frames := 1, cells := 0, slots := 0, locals := 21 } : Room) s m args below meth c H locs 0 0 (MQ below (QUi dC dI cy a o M) args s 0 0 (AU a)) (F0 m 62 ls []) := by
  have hx := X.1.1
  have hb := X.1.2.1
  have hown := X.1.2.2.2.1
  have hts := X.1.2.2.2.2
  rw [f_X5_leastTo_L62] at hf
  refine lv_iload_n hx hb dX5_leastTo_62 rfl (lv_at hl 2 rfl) ?_
  refine lv_goto (tgt := 67) hx hb dX5_leastTo_63 (by decide) ?_
  exact w_X5_leastTo_L67 X hT hk4 hf hG (lv_sub hl [0, 1, 2] rfl)
set_option maxHeartbeats 4000000 in
set_option maxRecDepth 100000 in
theorem w_X5_leastTo_L66 {l : Launch} {dC : Nat → ClassId} {dI : Nat → Nat → Nat} {cy : Nat → ClassId} {a : Nat → Nat} {p : Program} {e : Env} {s : State} {m : MethodId} {args : Array Value} {below : List Frame} {meth : Method} {c : Code} (X : XU dC dI cy a p s m c args meth cX5_leastTo 4 RX5 (some .int)) {M : Mem} {this : Nat} (hT : K5 this) {v1 : Int32} {v2 : Int32} {v3 : Int32} {o : Int32} {k4 : Int32 → Int32 → Option Int32} (hk4 : ∀ (v2 : Int32) (v3 : Int32) (H : Heap) (locs : List Loc) (ls : Array Slot), k4 v2 v3 = some o → GU dC dI cy a s.heap M H locs → lv_has ls 4 [(0, .ref (a this)), (1, .int v1), (2, .int v2), (3, .int v3)] → W p l e ({ frames := 1, cells := 0, slots := 0, locals := 21 } : Room) s m args below meth c H locs 0 0 (MQ below (QUi dC dI cy a o M) args s 0 0 (AU a)) (F0 m 4 ls [])) {H : Heap} {locs : List Loc} {ls : Array Slot} (hf : f_X5_leastTo_L66 k4 M this v1 v2 v3 = some o) (hG : GU dC dI cy a s.heap M H locs) (hl : lv_has ls 4 [(0, .ref (a this)), (1, .int v1), (2, .int v2), (3, .int v3)]) : W p l e ({ frames := 1, cells := 0, slots := 0, locals := 21 } : Room) s m args below meth c H locs 0 0 (MQ below (QUi dC dI cy a o M) args s 0 0 (AU a)) (F0 m 66 ls []) := by
  have hx := X.1.1
  have hb := X.1.2.1
  have hown := X.1.2.2.2.1
  have hts := X.1.2.2.2.2
  rw [f_X5_leastTo_L66] at hf
  refine lv_iload_n hx hb dX5_leastTo_66 rfl (lv_at hl 2 rfl) ?_
  exact w_X5_leastTo_L67 X hT hk4 hf hG (lv_sub hl [0, 1, 3] rfl)
set_option maxHeartbeats 4000000 in
set_option maxRecDepth 100000 in
theorem w_X5_leastTo_L4 {l : Launch} {dC : Nat → ClassId} {dI : Nat → Nat → Nat} {cy : Nat → ClassId} {a : Nat → Nat} {p : Program} {e : Env} {s : State} {m : MethodId} {args : Array Value} {below : List Frame} {meth : Method} {c : Code} (X : XU dC dI cy a p s m c args meth cX5_leastTo 4 RX5 (some .int)) {M : Mem} {this : Nat} (hT : K5 this) {v1 : Int32} {o : Int32} : ∀ (n : Nat) (v2 : Int32) (v3 : Int32) (H : Heap) (locs : List Loc) (ls : Array Slot), f_X5_leastTo_L4 M this v1 n v2 v3 = some o → GU dC dI cy a s.heap M H locs → lv_has ls 4 [(0, .ref (a this)), (1, .int v1), (2, .int v2), (3, .int v3)] → W p l e ({ frames := 1, cells := 0, slots := 0, locals := 21 } : Room) s m args below meth c H locs 0 0 (MQ below (QUi dC dI cy a o M) args s 0 0 (AU a)) (F0 m 4 ls []) := by
  have hx := X.1.1
  have hb := X.1.2.1
  have hown := X.1.2.2.2.1
  have hts := X.1.2.2.2.2
  intro n
  induction n with
  | zero => intro v2 v3 H locs ls hf; cases hf
  | succ n ih =>
    intro v2 v3 H locs ls hf hG hl
    rw [f_X5_leastTo_L4] at hf
    refine lv_iload_n hx hb dX5_leastTo_4 rfl (lv_at hl 3 rfl) ?_
    refine lv_aload_n hx hb dX5_leastTo_5 rfl (lv_at hl 0 rfl) ?_
    refine gf_X5_7 X hG hT dX5_leastTo_6 ?_
    refine lv_iconst (v := 1) hx hb dX5_leastTo_9 (by decide) ?_
    obtain ⟨hi1, hf⟩ := ck_some hf
    refine mw_iald X hG hT.2.1 hi1 dX5_leastTo_10 ?_
    refine lv_icmp_ge (tgt := 74) hx hb dX5_leastTo_11 (by decide) (fun c2 => ?_) (fun c2 => ?_)
    · have hf := itep c2 hf
      refine lv_iload_n hx hb dX5_leastTo_74 rfl (lv_at hl 2 rfl) ?_
      obtain rfl := Option.some.inj hf
      exact mw_iret X hG dX5_leastTo_75
    · have hf := iten c2 hf
      refine lv_aload_n hx hb dX5_leastTo_14 rfl (lv_at hl 0 rfl) ?_
      refine gf_X5_7 X hG hT dX5_leastTo_15 ?_
      refine lv_iconst (v := 0) hx hb dX5_leastTo_18 (by decide) ?_
      refine lv_iload_n hx hb dX5_leastTo_19 rfl (lv_at hl 3 rfl) ?_
      obtain ⟨x3, hr4, hf⟩ := bd_some hf
      refine mw_callSi (rest := [.ref (a (this + 1))]) X hG (c_X5_at l dC dI cy a X.2.2.1  M (0 : Int32) v3 hr4) (mw_cwS X 2 g_X5_34 hd_X5_at ⟨rfl, rfl⟩ ⟨Nat.le_of_ble_eq_true rfl, Nat.le_of_ble_eq_true rfl⟩) rfl hl.1 rfl (Nat.le_of_ble_eq_true rfl) dX5_leastTo_20 (fun H locs hG => ?_)
      refine lv_iconst (v := 1) hx hb dX5_leastTo_23 (by decide) ?_
      refine lv_iadd hx hb dX5_leastTo_24 ?_
      obtain ⟨hi5, hf⟩ := ck_some hf
      refine mw_iald X hG hT.2.1 hi5 dX5_leastTo_25 ?_
      refine lv_iload_n hx hb dX5_leastTo_26 rfl (lv_at hl 1 rfl) ?_
      refine lv_icmp_ne (tgt := 66) hx hb dX5_leastTo_27 (by decide) (fun c6 => ?_) (fun c6 => ?_)
      · have hf := iten c6 hf
        exact w_X5_leastTo_L66 X hT ih hf hG (lv_sub hl [0, 1, 2, 3] rfl)
      · have hf := itep c6 hf
        refine lv_iload_n hx hb dX5_leastTo_30 rfl (lv_at hl 2 rfl) ?_
        refine lv_iconst (v := -1) hx hb dX5_leastTo_31 (by decide) ?_
        refine lv_icmp_eq (tgt := 62) hx hb dX5_leastTo_32 (by decide) (fun c7 => ?_) (fun c7 => ?_)
        · have hf := itep c7 hf
          exact w_X5_leastTo_L62 X hT ih hf hG (lv_sub hl [0, 1, 3] rfl)
        · have hf := iten c7 hf
          refine lv_aload_n hx hb dX5_leastTo_35 rfl (lv_at hl 0 rfl) ?_
          refine gf_X5_7 X hG hT dX5_leastTo_36 ?_
          refine lv_iconst (v := 0) hx hb dX5_leastTo_39 (by decide) ?_
          refine lv_iload_n hx hb dX5_leastTo_40 rfl (lv_at hl 3 rfl) ?_
          obtain ⟨x8, hr9, hf⟩ := bd_some hf
          refine mw_callSi (rest := [.ref (a (this + 1))]) X hG (c_X5_at l dC dI cy a X.2.2.1  M (0 : Int32) v3 hr9) (mw_cwS X 2 g_X5_34 hd_X5_at ⟨rfl, rfl⟩ ⟨Nat.le_of_ble_eq_true rfl, Nat.le_of_ble_eq_true rfl⟩) rfl hl.1 rfl (Nat.le_of_ble_eq_true rfl) dX5_leastTo_41 (fun H locs hG => ?_)
          refine lv_iconst (v := 4) hx hb dX5_leastTo_44 (by decide) ?_
          refine lv_iadd hx hb dX5_leastTo_45 ?_
          obtain ⟨hi10, hf⟩ := ck_some hf
          refine mw_iald X hG hT.2.1 hi10 dX5_leastTo_46 ?_
          refine lv_aload_n hx hb dX5_leastTo_47 rfl (lv_at hl 0 rfl) ?_
          refine gf_X5_7 X hG hT dX5_leastTo_48 ?_
          refine lv_iconst (v := 0) hx hb dX5_leastTo_51 (by decide) ?_
          refine lv_iload_n hx hb dX5_leastTo_52 rfl (lv_at hl 2 rfl) ?_
          obtain ⟨x11, hr12, hf⟩ := bd_some hf
          refine mw_callSi (rest := [.ref (a (this + 1)), .int (rd M (this + 1) (x8 + (4 : Int32)).toNatClampNeg)]) X hG (c_X5_at l dC dI cy a X.2.2.1  M (0 : Int32) v2 hr12) (mw_cwS X 2 g_X5_34 hd_X5_at ⟨rfl, rfl⟩ ⟨Nat.le_of_ble_eq_true rfl, Nat.le_of_ble_eq_true rfl⟩) rfl hl.1 rfl (Nat.le_of_ble_eq_true rfl) dX5_leastTo_53 (fun H locs hG => ?_)
          refine lv_iconst (v := 4) hx hb dX5_leastTo_56 (by decide) ?_
          refine lv_iadd hx hb dX5_leastTo_57 ?_
          obtain ⟨hi13, hf⟩ := ck_some hf
          refine mw_iald X hG hT.2.1 hi13 dX5_leastTo_58 ?_
          refine lv_icmp_ge (tgt := 66) hx hb dX5_leastTo_59 (by decide) (fun c14 => ?_) (fun c14 => ?_)
          · have hf := itep c14 hf
            exact w_X5_leastTo_L66 X hT ih hf hG (lv_sub hl [0, 1, 2, 3] rfl)
          · have hf := iten c14 hf
            exact w_X5_leastTo_L62 X hT ih hf hG (lv_sub hl [0, 1, 3] rfl)
set_option maxHeartbeats 4000000 in
set_option maxRecDepth 100000 in
theorem c_X5_leastTo (l : Launch) (dC : Nat → ClassId) (dI : Nat → Nat → Nat) (cy : Nat → ClassId) (a : Nat → Nat) (ha : injU a) (this : Nat) (hT : K5 this) (M : Mem) (v1 : Int32) {o : Int32} (hf : f_X5_leastTo M this v1 = some o) : Met l yX5_leastTo (wsU yX5_leastTo cX5_leastTo 4 (some .int)) ({ frames := 1, cells := 0, slots := 0, locals := 21 } : Room) (PU dC dI cy a [.ref (a this), .int v1] M) (QUi dC dI cy a o M) 0 0 (AU a) := by
  refine mw_met (by decide) ha (Nat.le_of_ble_eq_true rfl) ?_
  intro p e s m below meth c ls X hG hl
  have hl : lv_has ls 4 [(0, .ref (a this)), (1, .int v1)] := hl
  have X : XU dC dI cy a p s m c [.ref (a this), .int v1].toArray meth cX5_leastTo 4 RX5 (some .int) := X
  have hx := X.1.1
  have hb := X.1.2.1
  have hown := X.1.2.2.2.1
  have hts := X.1.2.2.2.2
  rw [f_X5_leastTo] at hf
  refine lv_iconst (v := -1) hx hb dX5_leastTo_0 (by decide) ?_
  refine lv_istore_n (lv' := [(2, .int (-1 : Int32)), (0, .ref (a this)), (1, .int v1)]) hx hb dX5_leastTo_1 rfl hl (by decide) rfl (fun ls hl => ?_)
  refine lv_iconst (v := 0) hx hb dX5_leastTo_2 (by decide) ?_
  refine lv_istore_n (lv' := [(3, .int (0 : Int32)), (2, .int (-1 : Int32)), (0, .ref (a this)), (1, .int v1)]) hx hb dX5_leastTo_3 rfl hl (by decide) rfl (fun ls hl => ?_)
  exact w_X5_leastTo_L4 X hT 1000 _ _ _ _ _ hf hG (lv_sub hl [2, 3, 1, 0] rfl)
/-! X5_safe -/
set_option maxHeartbeats 4000000 in
set_option maxRecDepth 100000 in
theorem w_X5_safe_L28 {l : Launch} {dC : Nat → ClassId} {dI : Nat → Nat → Nat} {cy : Nat → ClassId} {a : Nat → Nat} {p : Program} {e : Env} {s : State} {m : MethodId} {args : Array Value} {below : List Frame} {meth : Method} {c : Code} (X : XU dC dI cy a p s m c args meth cX5_safe 3 RX5 (some .int)) {M : Mem} {this : Nat} (hT : K5 this) {s0 : Int32} {o : Int32} {H : Heap} {locs : List Loc} {ls : Array Slot} (hf : f_X5_safe_L28 M this s0 = some o) (hG : GU dC dI cy a s.heap M H locs) (hl : lv_has ls 3 [(0, .ref (a this))]) : W p l e ({ frames := 2, cells := 0, slots := 0, locals := 44 } : Room) s m args below meth c H locs 0 0 (MQ below (QUi dC dI cy a o M) args s 0 0 (AU a)) (F0 m 28 ls [.int s0]) := by
  have hx := X.1.1
  have hb := X.1.2.1
  have hown := X.1.2.2.2.1
  have hts := X.1.2.2.2.2
  rw [f_X5_safe_L28] at hf
  obtain rfl := Option.some.inj hf
  exact mw_iret X hG dX5_safe_28
set_option maxHeartbeats 4000000 in
set_option maxRecDepth 100000 in
theorem c_X5_safe (l : Launch) (dC : Nat → ClassId) (dI : Nat → Nat → Nat) (cy : Nat → ClassId) (a : Nat → Nat) (ha : injU a) (this : Nat) (hT : K5 this) (M : Mem) (v1 : Int32) {o : Int32} (hf : f_X5_safe M this v1 = some o) : Met l yX5_safe (wsU yX5_safe cX5_safe 3 (some .int)) ({ frames := 2, cells := 0, slots := 0, locals := 44 } : Room) (PU dC dI cy a [.ref (a this), .int v1] M) (QUi dC dI cy a o M) 0 0 (AU a) := by
  refine mw_met (by decide) ha (Nat.le_of_ble_eq_true rfl) ?_
  intro p e s m below meth c ls X hG hl
  have hl : lv_has ls 3 [(0, .ref (a this)), (1, .int v1)] := hl
  have X : XU dC dI cy a p s m c [.ref (a this), .int v1].toArray meth cX5_safe 3 RX5 (some .int) := X
  have hx := X.1.1
  have hb := X.1.2.1
  have hown := X.1.2.2.2.1
  have hts := X.1.2.2.2.2
  rw [f_X5_safe] at hf
  refine lv_aload_n hx hb dX5_safe_0 rfl (lv_at hl 0 rfl) ?_
  refine lv_iload_n hx hb dX5_safe_1 rfl (lv_at hl 1 rfl) ?_
  obtain ⟨x1, hr2, hf⟩ := bd_some hf
  refine mw_callVi (rest := []) X hG hT.1 rfl (c_X5_leastTo l dC dI cy a X.2.2.1 this hT M v1 hr2) (mw_cwV X 1 g_X5_92 hd_X5_leastTo ⟨rfl, rfl⟩ ⟨Nat.le_of_ble_eq_true rfl, Nat.le_of_ble_eq_true rfl⟩) rfl hl.1 rfl (Nat.le_of_ble_eq_true rfl) dX5_safe_2 (fun H locs hG => ?_)
  refine lv_istore_n (lv' := [(2, .int x1), (0, .ref (a this)), (1, .int v1)]) hx hb dX5_safe_5 rfl hl (by decide) rfl (fun ls hl => ?_)
  refine lv_iload_n hx hb dX5_safe_6 rfl (lv_at hl 0 rfl) ?_
  refine lv_iconst (v := -1) hx hb dX5_safe_7 (by decide) ?_
  refine lv_icmp_ne (tgt := 16) hx hb dX5_safe_8 (by decide) (fun c3 => ?_) (fun c3 => ?_)
  · have hf := iten c3 hf
    refine lv_aload_n hx hb dX5_safe_16 rfl (lv_at hl 1 rfl) ?_
    refine gf_X5_7 X hG hT dX5_safe_17 ?_
    refine lv_iconst (v := 0) hx hb dX5_safe_20 (by decide) ?_
    refine lv_iload_n hx hb dX5_safe_21 rfl (lv_at hl 0 rfl) ?_
    obtain ⟨x4, hr5, hf⟩ := bd_some hf
    refine mw_callSi (rest := [.ref (a (this + 1))]) X hG (c_X5_at l dC dI cy a X.2.2.1  M (0 : Int32) x1 hr5) (mw_cwS X 2 g_X5_34 hd_X5_at ⟨rfl, rfl⟩ ⟨Nat.le_of_ble_eq_true rfl, Nat.le_of_ble_eq_true rfl⟩) rfl hl.1 rfl (Nat.le_of_ble_eq_true rfl) dX5_safe_22 (fun H locs hG => ?_)
    refine lv_iconst (v := 4) hx hb dX5_safe_25 (by decide) ?_
    refine lv_iadd hx hb dX5_safe_26 ?_
    obtain ⟨hi6, hf⟩ := ck_some hf
    refine mw_iald X hG hT.2.1 hi6 dX5_safe_27 ?_
    exact w_X5_safe_L28 X hT hf hG (lv_sub hl [1] rfl)
  · have hf := itep c3 hf
    refine lv_ldc (v := 99999999) hx hb hown (hts _ wd_ct_X5_91) dX5_safe_11 ?_
    refine lv_goto (tgt := 28) hx hb dX5_safe_13 (by decide) ?_
    exact w_X5_safe_L28 X hT hf hG (lv_sub hl [1] rfl)
/-! X5_may -/
set_option maxHeartbeats 4000000 in
set_option maxRecDepth 100000 in
theorem w_X5_may_L29 {l : Launch} {dC : Nat → ClassId} {dI : Nat → Nat → Nat} {cy : Nat → ClassId} {a : Nat → Nat} {p : Program} {e : Env} {s : State} {m : MethodId} {args : Array Value} {below : List Frame} {meth : Method} {c : Code} (X : XU dC dI cy a p s m c args meth cX5_may 2 RX5 (some .boolean)) {M : Mem} {this : Nat} (hT : K5 this) {s0 : Int32} {o : Int32} {H : Heap} {locs : List Loc} {ls : Array Slot} (hf : f_X5_may_L29 M this s0 = some o) (hG : GU dC dI cy a s.heap M H locs) (hl : lv_has ls 2 [(0, .ref (a this))]) : W p l e ({ frames := 3, cells := 0, slots := 0, locals := 70 } : Room) s m args below meth c H locs 0 0 (MQ below (QUi dC dI cy a o M) args s 0 0 (AU a)) (F0 m 29 ls [.int s0]) := by
  have hx := X.1.1
  have hb := X.1.2.1
  have hown := X.1.2.2.2.1
  have hts := X.1.2.2.2.2
  rw [f_X5_may_L29] at hf
  obtain ⟨hz1, hf⟩ := zk_some hf
  obtain rfl := Option.some.inj hf
  exact mw_zret X hG (zk_nar hz1) dX5_may_29
set_option maxHeartbeats 4000000 in
set_option maxRecDepth 100000 in
theorem w_X5_may_L28 {l : Launch} {dC : Nat → ClassId} {dI : Nat → Nat → Nat} {cy : Nat → ClassId} {a : Nat → Nat} {p : Program} {e : Env} {s : State} {m : MethodId} {args : Array Value} {below : List Frame} {meth : Method} {c : Code} (X : XU dC dI cy a p s m c args meth cX5_may 2 RX5 (some .boolean)) {M : Mem} {this : Nat} (hT : K5 this) {o : Int32} {H : Heap} {locs : List Loc} {ls : Array Slot} (hf : f_X5_may_L28 M this = some o) (hG : GU dC dI cy a s.heap M H locs) (hl : lv_has ls 2 [(0, .ref (a this))]) : W p l e ({ frames := 3, cells := 0, slots := 0, locals := 70 } : Room) s m args below meth c H locs 0 0 (MQ below (QUi dC dI cy a o M) args s 0 0 (AU a)) (F0 m 28 ls []) := by
  have hx := X.1.1
  have hb := X.1.2.1
  have hown := X.1.2.2.2.1
  have hts := X.1.2.2.2.2
  rw [f_X5_may_L28] at hf
  refine lv_iconst (v := 0) hx hb dX5_may_28 (by decide) ?_
  exact w_X5_may_L29 X hT hf hG (lv_sub hl [0] rfl)
set_option maxHeartbeats 4000000 in
set_option maxRecDepth 100000 in
theorem c_X5_may (l : Launch) (dC : Nat → ClassId) (dI : Nat → Nat → Nat) (cy : Nat → ClassId) (a : Nat → Nat) (ha : injU a) (this : Nat) (hT : K5 this) (M : Mem) (v1 : Int32) {o : Int32} (hf : f_X5_may M this v1 = some o) : Met l yX5_may (wsU yX5_may cX5_may 2 (some .boolean)) ({ frames := 3, cells := 0, slots := 0, locals := 70 } : Room) (PU dC dI cy a [.ref (a this), .int v1] M) (QUi dC dI cy a o M) 0 0 (AU a) := by
  refine mw_met (by decide) ha (Nat.le_of_ble_eq_true rfl) ?_
  intro p e s m below meth c ls X hG hl
  have hl : lv_has ls 2 [(0, .ref (a this)), (1, .int v1)] := hl
  have X : XU dC dI cy a p s m c [.ref (a this), .int v1].toArray meth cX5_may 2 RX5 (some .boolean) := X
  have hx := X.1.1
  have hb := X.1.2.1
  have hown := X.1.2.2.2.1
  have hts := X.1.2.2.2.2
  rw [f_X5_may] at hf
  refine lv_aload_n hx hb dX5_may_0 rfl (lv_at hl 0 rfl) ?_
  refine lv_iconst (v := 0) hx hb dX5_may_1 (by decide) ?_
  refine lv_iload_n hx hb dX5_may_2 rfl (lv_at hl 1 rfl) ?_
  obtain ⟨x1, hr2, hf⟩ := bd_some hf
  refine mw_callVi (rest := []) X hG hT.1 rfl (c_X5_firstOf l dC dI cy a X.2.2.1 this hT M (0 : Int32) v1 hr2) (mw_cwV X 2 g_X5_88 hd_X5_firstOf ⟨rfl, rfl⟩ ⟨Nat.le_of_ble_eq_true rfl, Nat.le_of_ble_eq_true rfl⟩) rfl hl.1 rfl (Nat.le_of_ble_eq_true rfl) dX5_may_3 (fun H locs hG => ?_)
  refine lv_iconst (v := -1) hx hb dX5_may_6 (by decide) ?_
  refine lv_icmp_eq (tgt := 28) hx hb dX5_may_7 (by decide) (fun c3 => ?_) (fun c3 => ?_)
  · have hf := itep c3 hf
    exact w_X5_may_L28 X hT hf hG (lv_sub hl [0] rfl)
  · have hf := iten c3 hf
    refine lv_aload_n hx hb dX5_may_10 rfl (lv_at hl 0 rfl) ?_
    refine lv_iconst (v := 0) hx hb dX5_may_11 (by decide) ?_
    refine lv_iload_n hx hb dX5_may_12 rfl (lv_at hl 1 rfl) ?_
    obtain ⟨x4, hr5, hf⟩ := bd_some hf
    refine mw_callVi (rest := []) X hG hT.1 rfl (c_X5_firstTime l dC dI cy a X.2.2.1 this hT M (0 : Int32) v1 hr5) (mw_cwV X 2 g_X5_95 hd_X5_firstTime ⟨rfl, rfl⟩ ⟨Nat.le_of_ble_eq_true rfl, Nat.le_of_ble_eq_true rfl⟩) rfl hl.1 rfl (Nat.le_of_ble_eq_true rfl) dX5_may_13 (fun H locs hG => ?_)
    refine lv_aload_n hx hb dX5_may_16 rfl (lv_at hl 0 rfl) ?_
    refine lv_iload_n hx hb dX5_may_17 rfl (lv_at hl 1 rfl) ?_
    obtain ⟨x6, hr7, hf⟩ := bd_some hf
    refine mw_callVi (rest := [.int x4]) X hG hT.1 rfl (c_X5_safe l dC dI cy a X.2.2.1 this hT M v1 hr7) (mw_cwV X 1 g_X5_98 hd_X5_safe ⟨rfl, rfl⟩ ⟨Nat.le_of_ble_eq_true rfl, Nat.le_of_ble_eq_true rfl⟩) rfl hl.1 rfl (Nat.le_of_ble_eq_true rfl) dX5_may_18 (fun H locs hG => ?_)
    refine lv_icmp_ge (tgt := 28) hx hb dX5_may_21 (by decide) (fun c8 => ?_) (fun c8 => ?_)
    · have hf := itep c8 hf
      exact w_X5_may_L28 X hT hf hG (lv_sub hl [0] rfl)
    · have hf := iten c8 hf
      refine lv_iconst (v := 1) hx hb dX5_may_24 (by decide) ?_
      refine lv_goto (tgt := 29) hx hb dX5_may_25 (by decide) ?_
      exact w_X5_may_L29 X hT hf hG (lv_sub hl [0] rfl)
/-! X5_outOf -/
set_option maxHeartbeats 4000000 in
set_option maxRecDepth 100000 in
theorem w_X5_outOf_L41 {l : Launch} {dC : Nat → ClassId} {dI : Nat → Nat → Nat} {cy : Nat → ClassId} {a : Nat → Nat} {p : Program} {e : Env} {s : State} {m : MethodId} {args : Array Value} {below : List Frame} {meth : Method} {c : Code} (X : XU dC dI cy a p s m c args meth cX5_outOf 5 RX5 (some .int)) {M : Mem} {this : Nat} (hT : K5 this) {v1 : Int32} {v2 : Int32} {v4 : Int32} {s0 : Int32} {s1 : Int32} {o : Int32} {k5 : Int32 → Int32 → Option Int32} (hk5 : ∀ (v3 : Int32) (v4 : Int32) (H : Heap) (locs : List Loc) (ls : Array Slot), k5 v3 v4 = some o → GU dC dI cy a s.heap M H locs → lv_has ls 5 [(0, .ref (a this)), (1, .int v1), (2, .int v2), (3, .int v3), (4, .int v4)] → W p l e ({ frames := 1, cells := 0, slots := 0, locals := 21 } : Room) s m args below meth c H locs 0 0 (MQ below (QUi dC dI cy a o M) args s 0 0 (AU a)) (F0 m 5 ls [])) {H : Heap} {locs : List Loc} {ls : Array Slot} (hf : f_X5_outOf_L41 k5 M this v1 v2 v4 s0 s1 = some o) (hG : GU dC dI cy a s.heap M H locs) (hl : lv_has ls 5 [(0, .ref (a this)), (1, .int v1), (2, .int v2), (4, .int v4)]) : W p l e ({ frames := 1, cells := 0, slots := 0, locals := 21 } : Room) s m args below meth c H locs 0 0 (MQ below (QUi dC dI cy a o M) args s 0 0 (AU a)) (F0 m 41 ls [.int s0, .int s1]) := by
  have hx := X.1.1
  have hb := X.1.2.1
  have hown := X.1.2.2.2.1
  have hts := X.1.2.2.2.2
  rw [f_X5_outOf_L41] at hf
  refine lv_iadd hx hb dX5_outOf_41 ?_
  refine lv_topi (fun x1 ex1 => ?_)
  have hf := nm_of ex1 hf
  refine lv_istore_n (lv' := [(3, .int x1), (0, .ref (a this)), (1, .int v1), (2, .int v2), (4, .int v4)]) hx hb dX5_outOf_42 rfl hl (by decide) rfl (fun ls hl => ?_)
  obtain ⟨x2, ex2⟩ : ∃ y : Int32, y = v4 + (1 : Int32) := ⟨_, rfl⟩
  have hf := nm_of ex2 hf
  refine lv_iinc (v := x2) (lv' := [(4, .int x2), (3, .int x1), (0, .ref (a this)), (1, .int v1), (2, .int v2)]) hx hb dX5_outOf_43 hl (k := 4) rfl (by rw [ex2]; rfl) (by decide) rfl (fun ls hl => ?_)
  refine lv_goto (tgt := 5) hx hb dX5_outOf_46 (by decide) ?_
  exact hk5 _ _ _ _ _ hf hG (lv_sub hl [2, 3, 4, 1, 0] rfl)
set_option maxHeartbeats 4000000 in
set_option maxRecDepth 100000 in
theorem w_X5_outOf_L5 {l : Launch} {dC : Nat → ClassId} {dI : Nat → Nat → Nat} {cy : Nat → ClassId} {a : Nat → Nat} {p : Program} {e : Env} {s : State} {m : MethodId} {args : Array Value} {below : List Frame} {meth : Method} {c : Code} (X : XU dC dI cy a p s m c args meth cX5_outOf 5 RX5 (some .int)) {M : Mem} {this : Nat} (hT : K5 this) {v1 : Int32} {v2 : Int32} {o : Int32} : ∀ (n : Nat) (v3 : Int32) (v4 : Int32) (H : Heap) (locs : List Loc) (ls : Array Slot), f_X5_outOf_L5 M this v1 v2 n v3 v4 = some o → GU dC dI cy a s.heap M H locs → lv_has ls 5 [(0, .ref (a this)), (1, .int v1), (2, .int v2), (3, .int v3), (4, .int v4)] → W p l e ({ frames := 1, cells := 0, slots := 0, locals := 21 } : Room) s m args below meth c H locs 0 0 (MQ below (QUi dC dI cy a o M) args s 0 0 (AU a)) (F0 m 5 ls []) := by
  have hx := X.1.1
  have hb := X.1.2.1
  have hown := X.1.2.2.2.1
  have hts := X.1.2.2.2.2
  intro n
  induction n with
  | zero => intro v3 v4 H locs ls hf; cases hf
  | succ n ih =>
    intro v3 v4 H locs ls hf hG hl
    rw [f_X5_outOf_L5] at hf
    refine lv_iload hx hb dX5_outOf_5 (lv_at hl 4 rfl) ?_
    refine lv_aload_n hx hb dX5_outOf_7 rfl (lv_at hl 0 rfl) ?_
    refine gf_X5_7 X hG hT dX5_outOf_8 ?_
    refine lv_iload_n hx hb dX5_outOf_11 rfl (lv_at hl 1 rfl) ?_
    refine lv_iconst (v := 1) hx hb dX5_outOf_12 (by decide) ?_
    refine lv_iadd hx hb dX5_outOf_13 ?_
    obtain ⟨hi1, hf⟩ := ck_some hf
    refine mw_iald X hG hT.2.1 hi1 dX5_outOf_14 ?_
    refine lv_icmp_ge (tgt := 49) hx hb dX5_outOf_15 (by decide) (fun c2 => ?_) (fun c2 => ?_)
    · have hf := itep c2 hf
      refine lv_iload_n hx hb dX5_outOf_49 rfl (lv_at hl 3 rfl) ?_
      obtain rfl := Option.some.inj hf
      exact mw_iret X hG dX5_outOf_50
    · have hf := iten c2 hf
      refine lv_iload_n hx hb dX5_outOf_18 rfl (lv_at hl 3 rfl) ?_
      refine lv_aload_n hx hb dX5_outOf_19 rfl (lv_at hl 0 rfl) ?_
      refine gf_X5_7 X hG hT dX5_outOf_20 ?_
      refine lv_iload_n hx hb dX5_outOf_23 rfl (lv_at hl 1 rfl) ?_
      refine lv_iload hx hb dX5_outOf_24 (lv_at hl 4 rfl) ?_
      obtain ⟨x3, hr4, hf⟩ := bd_some hf
      refine mw_callSi (rest := [.ref (a (this + 1)), .int v3]) X hG (c_X5_at l dC dI cy a X.2.2.1  M v1 v4 hr4) (mw_cwS X 2 g_X5_34 hd_X5_at ⟨rfl, rfl⟩ ⟨Nat.le_of_ble_eq_true rfl, Nat.le_of_ble_eq_true rfl⟩) rfl hl.1 rfl (Nat.le_of_ble_eq_true rfl) dX5_outOf_26 (fun H locs hG => ?_)
      refine lv_iconst (v := 0) hx hb dX5_outOf_29 (by decide) ?_
      refine lv_iadd hx hb dX5_outOf_30 ?_
      obtain ⟨hi5, hf⟩ := ck_some hf
      refine mw_iald X hG hT.2.1 hi5 dX5_outOf_31 ?_
      refine lv_iload_n hx hb dX5_outOf_32 rfl (lv_at hl 2 rfl) ?_
      refine lv_icmp_ne (tgt := 40) hx hb dX5_outOf_33 (by decide) (fun c6 => ?_) (fun c6 => ?_)
      · have hf := iten c6 hf
        refine lv_iconst (v := 0) hx hb dX5_outOf_40 (by decide) ?_
        exact w_X5_outOf_L41 X hT ih hf hG (lv_sub hl [0, 1, 2, 4] rfl)
      · have hf := itep c6 hf
        refine lv_iconst (v := 1) hx hb dX5_outOf_36 (by decide) ?_
        refine lv_goto (tgt := 41) hx hb dX5_outOf_37 (by decide) ?_
        exact w_X5_outOf_L41 X hT ih hf hG (lv_sub hl [0, 1, 2, 4] rfl)
set_option maxHeartbeats 4000000 in
set_option maxRecDepth 100000 in
theorem c_X5_outOf (l : Launch) (dC : Nat → ClassId) (dI : Nat → Nat → Nat) (cy : Nat → ClassId) (a : Nat → Nat) (ha : injU a) (this : Nat) (hT : K5 this) (M : Mem) (v1 : Int32) (v2 : Int32) {o : Int32} (hf : f_X5_outOf M this v1 v2 = some o) : Met l yX5_outOf (wsU yX5_outOf cX5_outOf 5 (some .int)) ({ frames := 1, cells := 0, slots := 0, locals := 21 } : Room) (PU dC dI cy a [.ref (a this), .int v1, .int v2] M) (QUi dC dI cy a o M) 0 0 (AU a) := by
  refine mw_met (by decide) ha (Nat.le_of_ble_eq_true rfl) ?_
  intro p e s m below meth c ls X hG hl
  have hl : lv_has ls 5 [(0, .ref (a this)), (1, .int v1), (2, .int v2)] := hl
  have X : XU dC dI cy a p s m c [.ref (a this), .int v1, .int v2].toArray meth cX5_outOf 5 RX5 (some .int) := X
  have hx := X.1.1
  have hb := X.1.2.1
  have hown := X.1.2.2.2.1
  have hts := X.1.2.2.2.2
  rw [f_X5_outOf] at hf
  refine lv_iconst (v := 0) hx hb dX5_outOf_0 (by decide) ?_
  refine lv_istore_n (lv' := [(3, .int (0 : Int32)), (0, .ref (a this)), (1, .int v1), (2, .int v2)]) hx hb dX5_outOf_1 rfl hl (by decide) rfl (fun ls hl => ?_)
  refine lv_iconst (v := 0) hx hb dX5_outOf_2 (by decide) ?_
  refine lv_istore (lv' := [(4, .int (0 : Int32)), (3, .int (0 : Int32)), (0, .ref (a this)), (1, .int v1), (2, .int v2)]) hx hb dX5_outOf_3 hl (by decide) rfl (fun ls hl => ?_)
  exact w_X5_outOf_L5 X hT 1000 _ _ _ _ _ hf hG (lv_sub hl [2, 3, 4, 1, 0] rfl)
/-! X5_outAt -/
set_option maxHeartbeats 4000000 in
set_option maxRecDepth 100000 in
theorem w_X5_outAt_L57 {l : Launch} {dC : Nat → ClassId} {dI : Nat → Nat → Nat} {cy : Nat → ClassId} {a : Nat → Nat} {p : Program} {e : Env} {s : State} {m : MethodId} {args : Array Value} {below : List Frame} {meth : Method} {c : Code} (X : XU dC dI cy a p s m c args meth cX5_outAt 7 RX5 (some .int)) {M : Mem} {this : Nat} (hT : K5 this) {v1 : Int32} {v2 : Int32} {v3 : Int32} {v4 : Int32} {v5 : Int32} {v6 : Int32} {o : Int32} {k9 : Int32 → Int32 → Int32 → Option Int32} (hk9 : ∀ (v4 : Int32) (v5 : Int32) (v6 : Int32) (H : Heap) (locs : List Loc) (ls : Array Slot), k9 v4 v5 v6 = some o → GU dC dI cy a s.heap M H locs → lv_has ls 7 [(0, .ref (a this)), (1, .int v1), (2, .int v2), (3, .int v3), (4, .int v4), (5, .int v5), (6, .int v6)] → W p l e ({ frames := 1, cells := 0, slots := 0, locals := 21 } : Room) s m args below meth c H locs 0 0 (MQ below (QUi dC dI cy a o M) args s 0 0 (AU a)) (F0 m 9 ls [])) {H : Heap} {locs : List Loc} {ls : Array Slot} (hf : f_X5_outAt_L57 k9 M this v1 v2 v3 v4 v5 v6 = some o) (hG : GU dC dI cy a s.heap M H locs) (hl : lv_has ls 7 [(0, .ref (a this)), (1, .int v1), (2, .int v2), (3, .int v3), (4, .int v4), (5, .int v5), (6, .int v6)]) : W p l e ({ frames := 1, cells := 0, slots := 0, locals := 21 } : Room) s m args below meth c H locs 0 0 (MQ below (QUi dC dI cy a o M) args s 0 0 (AU a)) (F0 m 57 ls []) := by
  have hx := X.1.1
  have hb := X.1.2.1
  have hown := X.1.2.2.2.1
  have hts := X.1.2.2.2.2
  rw [f_X5_outAt_L57] at hf
  obtain ⟨x1, ex1⟩ : ∃ y : Int32, y = v6 + (1 : Int32) := ⟨_, rfl⟩
  have hf := nm_of ex1 hf
  refine lv_iinc (v := x1) (lv' := [(6, .int x1), (0, .ref (a this)), (1, .int v1), (2, .int v2), (3, .int v3), (4, .int v4), (5, .int v5)]) hx hb dX5_outAt_57 hl (k := 6) rfl (by rw [ex1]; rfl) (by decide) rfl (fun ls hl => ?_)
  refine lv_goto (tgt := 9) hx hb dX5_outAt_60 (by decide) ?_
  exact hk9 _ _ _ _ _ _ hf hG (lv_sub hl [1, 2, 3, 4, 5, 6, 0] rfl)
set_option maxHeartbeats 4000000 in
set_option maxRecDepth 100000 in
theorem w_X5_outAt_L52 {l : Launch} {dC : Nat → ClassId} {dI : Nat → Nat → Nat} {cy : Nat → ClassId} {a : Nat → Nat} {p : Program} {e : Env} {s : State} {m : MethodId} {args : Array Value} {below : List Frame} {meth : Method} {c : Code} (X : XU dC dI cy a p s m c args meth cX5_outAt 7 RX5 (some .int)) {M : Mem} {this : Nat} (hT : K5 this) {v1 : Int32} {v2 : Int32} {v3 : Int32} {v5 : Int32} {v6 : Int32} {s0 : Int32} {o : Int32} {k9 : Int32 → Int32 → Int32 → Option Int32} (hk9 : ∀ (v4 : Int32) (v5 : Int32) (v6 : Int32) (H : Heap) (locs : List Loc) (ls : Array Slot), k9 v4 v5 v6 = some o → GU dC dI cy a s.heap M H locs → lv_has ls 7 [(0, .ref (a this)), (1, .int v1), (2, .int v2), (3, .int v3), (4, .int v4), (5, .int v5), (6, .int v6)] → W p l e ({ frames := 1, cells := 0, slots := 0, locals := 21 } : Room) s m args below meth c H locs 0 0 (MQ below (QUi dC dI cy a o M) args s 0 0 (AU a)) (F0 m 9 ls [])) {H : Heap} {locs : List Loc} {ls : Array Slot} (hf : f_X5_outAt_L52 k9 M this v1 v2 v3 v5 v6 s0 = some o) (hG : GU dC dI cy a s.heap M H locs) (hl : lv_has ls 7 [(0, .ref (a this)), (1, .int v1), (2, .int v2), (3, .int v3), (5, .int v5), (6, .int v6)]) : W p l e ({ frames := 1, cells := 0, slots := 0, locals := 21 } : Room) s m args below meth c H locs 0 0 (MQ below (QUi dC dI cy a o M) args s 0 0 (AU a)) (F0 m 52 ls [.int s0]) := by
  have hx := X.1.1
  have hb := X.1.2.1
  have hown := X.1.2.2.2.1
  have hts := X.1.2.2.2.2
  rw [f_X5_outAt_L52] at hf
  refine lv_istore (lv' := [(4, .int s0), (0, .ref (a this)), (1, .int v1), (2, .int v2), (3, .int v3), (5, .int v5), (6, .int v6)]) hx hb dX5_outAt_52 hl (by decide) rfl (fun ls hl => ?_)
  obtain ⟨x1, ex1⟩ : ∃ y : Int32, y = v5 + (1 : Int32) := ⟨_, rfl⟩
  have hf := nm_of ex1 hf
  refine lv_iinc (v := x1) (lv' := [(5, .int x1), (4, .int s0), (0, .ref (a this)), (1, .int v1), (2, .int v2), (3, .int v3), (6, .int v6)]) hx hb dX5_outAt_54 hl (k := 5) rfl (by rw [ex1]; rfl) (by decide) rfl (fun ls hl => ?_)
  exact w_X5_outAt_L57 X hT hk9 hf hG (lv_sub hl [2, 3, 4, 5, 1, 0, 6] rfl)
set_option maxHeartbeats 4000000 in
set_option maxRecDepth 100000 in
theorem w_X5_outAt_L9 {l : Launch} {dC : Nat → ClassId} {dI : Nat → Nat → Nat} {cy : Nat → ClassId} {a : Nat → Nat} {p : Program} {e : Env} {s : State} {m : MethodId} {args : Array Value} {below : List Frame} {meth : Method} {c : Code} (X : XU dC dI cy a p s m c args meth cX5_outAt 7 RX5 (some .int)) {M : Mem} {this : Nat} (hT : K5 this) {v1 : Int32} {v2 : Int32} {v3 : Int32} {o : Int32} : ∀ (n : Nat) (v4 : Int32) (v5 : Int32) (v6 : Int32) (H : Heap) (locs : List Loc) (ls : Array Slot), f_X5_outAt_L9 M this v1 v2 v3 n v4 v5 v6 = some o → GU dC dI cy a s.heap M H locs → lv_has ls 7 [(0, .ref (a this)), (1, .int v1), (2, .int v2), (3, .int v3), (4, .int v4), (5, .int v5), (6, .int v6)] → W p l e ({ frames := 1, cells := 0, slots := 0, locals := 21 } : Room) s m args below meth c H locs 0 0 (MQ below (QUi dC dI cy a o M) args s 0 0 (AU a)) (F0 m 9 ls []) := by
  have hx := X.1.1
  have hb := X.1.2.1
  have hown := X.1.2.2.2.1
  have hts := X.1.2.2.2.2
  intro n
  induction n with
  | zero => intro v4 v5 v6 H locs ls hf; cases hf
  | succ n ih =>
    intro v4 v5 v6 H locs ls hf hG hl
    rw [f_X5_outAt_L9] at hf
    refine lv_iload hx hb dX5_outAt_9 (lv_at hl 6 rfl) ?_
    refine lv_aload_n hx hb dX5_outAt_11 rfl (lv_at hl 0 rfl) ?_
    refine gf_X5_7 X hG hT dX5_outAt_12 ?_
    refine lv_iload_n hx hb dX5_outAt_15 rfl (lv_at hl 1 rfl) ?_
    refine lv_iconst (v := 1) hx hb dX5_outAt_16 (by decide) ?_
    refine lv_iadd hx hb dX5_outAt_17 ?_
    obtain ⟨hi1, hf⟩ := ck_some hf
    refine mw_iald X hG hT.2.1 hi1 dX5_outAt_18 ?_
    refine lv_icmp_ge (tgt := 63) hx hb dX5_outAt_19 (by decide) (fun c2 => ?_) (fun c2 => ?_)
    · have hf := itep c2 hf
      refine lv_iload hx hb dX5_outAt_63 (lv_at hl 4 rfl) ?_
      obtain rfl := Option.some.inj hf
      exact mw_iret X hG dX5_outAt_65
    · have hf := iten c2 hf
      refine lv_aload_n hx hb dX5_outAt_22 rfl (lv_at hl 0 rfl) ?_
      refine gf_X5_7 X hG hT dX5_outAt_23 ?_
      refine lv_iload_n hx hb dX5_outAt_26 rfl (lv_at hl 1 rfl) ?_
      refine lv_iload hx hb dX5_outAt_27 (lv_at hl 6 rfl) ?_
      obtain ⟨x3, hr4, hf⟩ := bd_some hf
      refine mw_callSi (rest := [.ref (a (this + 1))]) X hG (c_X5_at l dC dI cy a X.2.2.1  M v1 v6 hr4) (mw_cwS X 2 g_X5_34 hd_X5_at ⟨rfl, rfl⟩ ⟨Nat.le_of_ble_eq_true rfl, Nat.le_of_ble_eq_true rfl⟩) rfl hl.1 rfl (Nat.le_of_ble_eq_true rfl) dX5_outAt_29 (fun H locs hG => ?_)
      refine lv_iconst (v := 0) hx hb dX5_outAt_32 (by decide) ?_
      refine lv_iadd hx hb dX5_outAt_33 ?_
      obtain ⟨hi5, hf⟩ := ck_some hf
      refine mw_iald X hG hT.2.1 hi5 dX5_outAt_34 ?_
      refine lv_iload_n hx hb dX5_outAt_35 rfl (lv_at hl 2 rfl) ?_
      refine lv_icmp_ne (tgt := 57) hx hb dX5_outAt_36 (by decide) (fun c6 => ?_) (fun c6 => ?_)
      · have hf := iten c6 hf
        exact w_X5_outAt_L57 X hT ih hf hG (lv_sub hl [0, 1, 2, 3, 4, 5, 6] rfl)
      · have hf := itep c6 hf
        refine lv_iload hx hb dX5_outAt_39 (lv_at hl 5 rfl) ?_
        refine lv_iload_n hx hb dX5_outAt_41 rfl (lv_at hl 3 rfl) ?_
        refine lv_icmp_ne (tgt := 50) hx hb dX5_outAt_42 (by decide) (fun c7 => ?_) (fun c7 => ?_)
        · have hf := iten c7 hf
          refine lv_iload hx hb dX5_outAt_50 (lv_at hl 4 rfl) ?_
          exact w_X5_outAt_L52 X hT ih hf hG (lv_sub hl [0, 1, 2, 3, 5, 6] rfl)
        · have hf := itep c7 hf
          refine lv_iload hx hb dX5_outAt_45 (lv_at hl 6 rfl) ?_
          refine lv_goto (tgt := 52) hx hb dX5_outAt_47 (by decide) ?_
          exact w_X5_outAt_L52 X hT ih hf hG (lv_sub hl [0, 1, 2, 3, 5, 6] rfl)
set_option maxHeartbeats 4000000 in
set_option maxRecDepth 100000 in
theorem c_X5_outAt (l : Launch) (dC : Nat → ClassId) (dI : Nat → Nat → Nat) (cy : Nat → ClassId) (a : Nat → Nat) (ha : injU a) (this : Nat) (hT : K5 this) (M : Mem) (v1 : Int32) (v2 : Int32) (v3 : Int32) {o : Int32} (hf : f_X5_outAt M this v1 v2 v3 = some o) : Met l yX5_outAt (wsU yX5_outAt cX5_outAt 7 (some .int)) ({ frames := 1, cells := 0, slots := 0, locals := 21 } : Room) (PU dC dI cy a [.ref (a this), .int v1, .int v2, .int v3] M) (QUi dC dI cy a o M) 0 0 (AU a) := by
  refine mw_met (by decide) ha (Nat.le_of_ble_eq_true rfl) ?_
  intro p e s m below meth c ls X hG hl
  have hl : lv_has ls 7 [(0, .ref (a this)), (1, .int v1), (2, .int v2), (3, .int v3)] := hl
  have X : XU dC dI cy a p s m c [.ref (a this), .int v1, .int v2, .int v3].toArray meth cX5_outAt 7 RX5 (some .int) := X
  have hx := X.1.1
  have hb := X.1.2.1
  have hown := X.1.2.2.2.1
  have hts := X.1.2.2.2.2
  rw [f_X5_outAt] at hf
  refine lv_iconst (v := -1) hx hb dX5_outAt_0 (by decide) ?_
  refine lv_istore (lv' := [(4, .int (-1 : Int32)), (0, .ref (a this)), (1, .int v1), (2, .int v2), (3, .int v3)]) hx hb dX5_outAt_1 hl (by decide) rfl (fun ls hl => ?_)
  refine lv_iconst (v := 0) hx hb dX5_outAt_3 (by decide) ?_
  refine lv_istore (lv' := [(5, .int (0 : Int32)), (4, .int (-1 : Int32)), (0, .ref (a this)), (1, .int v1), (2, .int v2), (3, .int v3)]) hx hb dX5_outAt_4 hl (by decide) rfl (fun ls hl => ?_)
  refine lv_iconst (v := 0) hx hb dX5_outAt_6 (by decide) ?_
  refine lv_istore (lv' := [(6, .int (0 : Int32)), (5, .int (0 : Int32)), (4, .int (-1 : Int32)), (0, .ref (a this)), (1, .int v1), (2, .int v2), (3, .int v3)]) hx hb dX5_outAt_7 hl (by decide) rfl (fun ls hl => ?_)
  exact w_X5_outAt_L9 X hT 1000 _ _ _ _ _ _ hf hG (lv_sub hl [3, 4, 5, 6, 2, 1, 0] rfl)
/-! X5_works -/
set_option maxHeartbeats 4000000 in
set_option maxRecDepth 100000 in
theorem w_X5_works_L404 {l : Launch} {dC : Nat → ClassId} {dI : Nat → Nat → Nat} {cy : Nat → ClassId} {a : Nat → Nat} {p : Program} {e : Env} {s : State} {m : MethodId} {args : Array Value} {below : List Frame} {meth : Method} {c : Code} (X : XU dC dI cy a p s m c args meth cX5_works 10 RX5 none) {M : Mem} {this : Nat} (hT : K5 this) {o : Mem} {H : Heap} {locs : List Loc} {ls : Array Slot} (hf : f_X5_works_L404 M this = some o) (hG : GU dC dI cy a s.heap M H locs) (hl : lv_has ls 10 [(0, .ref (a this))]) : W p l e ({ frames := 2, cells := 0, slots := 0, locals := 47 } : Room) s m args below meth c H locs 0 0 (MQ below (QUv dC dI cy a o) args s 0 0 (AU a)) (F0 m 404 ls []) := by
  have hx := X.1.1
  have hb := X.1.2.1
  have hown := X.1.2.2.2.1
  have hts := X.1.2.2.2.2
  rw [f_X5_works_L404] at hf
  obtain rfl := Option.some.inj hf
  exact mw_vret X hG dX5_works_404
set_option maxHeartbeats 4000000 in
set_option maxRecDepth 100000 in
theorem w_X5_works_L403 {l : Launch} {dC : Nat → ClassId} {dI : Nat → Nat → Nat} {cy : Nat → ClassId} {a : Nat → Nat} {p : Program} {e : Env} {s : State} {m : MethodId} {args : Array Value} {below : List Frame} {meth : Method} {c : Code} (X : XU dC dI cy a p s m c args meth cX5_works 10 RX5 none) {M : Mem} {this : Nat} (hT : K5 this) {s0 : Int32} {s1 : Int32} {o : Mem} {H : Heap} {locs : List Loc} {ls : Array Slot} (hf : f_X5_works_L403 M this s0 s1 = some o) (hG : GU dC dI cy a s.heap M H locs) (hl : lv_has ls 10 [(0, .ref (a this))]) : W p l e ({ frames := 2, cells := 0, slots := 0, locals := 47 } : Room) s m args below meth c H locs 0 0 (MQ below (QUv dC dI cy a o) args s 0 0 (AU a)) (F0 m 403 ls [.int s0, .int s1, .ref (a (this + 1))]) := by
  have hx := X.1.1
  have hb := X.1.2.1
  have hown := X.1.2.2.2.1
  have hts := X.1.2.2.2.2
  rw [f_X5_works_L403] at hf
  obtain ⟨hi1, hf⟩ := ck_some hf
  refine mw_iast X hG hT.2.1 hi1 dX5_works_403 (fun M2 H locs eM2 hG => ?_)
  have hf := nm_of eM2 hf
  exact w_X5_works_L404 X hT hf hG (lv_sub hl [0] rfl)
set_option maxHeartbeats 4000000 in
set_option maxRecDepth 100000 in
theorem w_X5_works_L176 {l : Launch} {dC : Nat → ClassId} {dI : Nat → Nat → Nat} {cy : Nat → ClassId} {a : Nat → Nat} {p : Program} {e : Env} {s : State} {m : MethodId} {args : Array Value} {below : List Frame} {meth : Method} {c : Code} (X : XU dC dI cy a p s m c args meth cX5_works 10 RX5 none) {M : Mem} {this : Nat} (hT : K5 this) {v1 : Int32} {v3 : Int32} {v4 : Int32} {v5 : Int32} {o : Mem} {H : Heap} {locs : List Loc} {ls : Array Slot} (hf : f_X5_works_L176 M this v1 v3 v4 v5 = some o) (hG : GU dC dI cy a s.heap M H locs) (hl : lv_has ls 10 [(0, .ref (a this)), (1, .int v1), (3, .int v3), (4, .int v4), (5, .int v5)]) : W p l e ({ frames := 2, cells := 0, slots := 0, locals := 47 } : Room) s m args below meth c H locs 0 0 (MQ below (QUv dC dI cy a o) args s 0 0 (AU a)) (F0 m 176 ls []) := by
  have hx := X.1.1
  have hb := X.1.2.1
  have hown := X.1.2.2.2.1
  have hts := X.1.2.2.2.2
  rw [f_X5_works_L176] at hf
  refine lv_aload_n hx hb dX5_works_176 rfl (lv_at hl 0 rfl) ?_
  refine gf_X5_7 X hG hT dX5_works_177 ?_
  refine lv_iload_n hx hb dX5_works_180 rfl (lv_at hl 1 rfl) ?_
  refine lv_bipush (v := 9) hx hb dX5_works_181 (by decide) ?_
  refine lv_iadd hx hb dX5_works_183 ?_
  refine lv_topi (fun x1 ex1 => ?_)
  have hf := nm_of ex1 hf
  refine lv_dup2_11 hx hb dX5_works_184 rfl rfl ?_
  obtain ⟨hi2, hf⟩ := ck_some hf
  refine mw_iald X hG hT.2.1 hi2 dX5_works_185 ?_
  refine lv_iconst (v := 1) hx hb dX5_works_186 (by decide) ?_
  refine lv_isub hx hb dX5_works_187 ?_
  obtain ⟨hi3, hf⟩ := ck_some hf
  refine mw_iast X hG hT.2.1 hi3 dX5_works_188 (fun M4 H locs eM4 hG => ?_)
  have hf := nm_of eM4 hf
  refine lv_aload_n hx hb dX5_works_189 rfl (lv_at hl 0 rfl) ?_
  refine gf_X5_7 X hG hT dX5_works_190 ?_
  refine lv_iload_n hx hb dX5_works_193 rfl (lv_at hl 1 rfl) ?_
  refine lv_iconst (v := 3) hx hb dX5_works_194 (by decide) ?_
  refine lv_iadd hx hb dX5_works_195 ?_
  refine lv_topi (fun x5 ex5 => ?_)
  have hf := nm_of ex5 hf
  refine lv_dup2_11 hx hb dX5_works_196 rfl rfl ?_
  obtain ⟨hi6, hf⟩ := ck_some hf
  refine mw_iald X hG hT.2.1 hi6 dX5_works_197 ?_
  refine lv_iconst (v := 1) hx hb dX5_works_198 (by decide) ?_
  refine lv_iadd hx hb dX5_works_199 ?_
  obtain ⟨hi7, hf⟩ := ck_some hf
  refine mw_iast X hG hT.2.1 hi7 dX5_works_200 (fun M8 H locs eM8 hG => ?_)
  have hf := nm_of eM8 hf
  refine lv_aload_n hx hb dX5_works_201 rfl (lv_at hl 0 rfl) ?_
  refine gf_X5_7 X hG hT dX5_works_202 ?_
  refine lv_iload_n hx hb dX5_works_205 rfl (lv_at hl 1 rfl) ?_
  refine lv_bipush (v := 10) hx hb dX5_works_206 (by decide) ?_
  refine lv_iadd hx hb dX5_works_208 ?_
  refine lv_iload_n hx hb dX5_works_209 rfl (lv_at hl 2 rfl) ?_
  refine lv_iadd hx hb dX5_works_210 ?_
  refine lv_topi (fun x9 ex9 => ?_)
  have hf := nm_of ex9 hf
  refine lv_dup2_11 hx hb dX5_works_211 rfl rfl ?_
  obtain ⟨hi10, hf⟩ := ck_some hf
  refine mw_iald X hG hT.2.1 hi10 dX5_works_212 ?_
  refine lv_iconst (v := 1) hx hb dX5_works_213 (by decide) ?_
  refine lv_iadd hx hb dX5_works_214 ?_
  obtain ⟨hi11, hf⟩ := ck_some hf
  refine mw_iast X hG hT.2.1 hi11 dX5_works_215 (fun M12 H locs eM12 hG => ?_)
  have hf := nm_of eM12 hf
  refine lv_aload_n hx hb dX5_works_216 rfl (lv_at hl 0 rfl) ?_
  refine gf_X5_7 X hG hT dX5_works_217 ?_
  refine lv_iload_n hx hb dX5_works_220 rfl (lv_at hl 1 rfl) ?_
  refine lv_bipush (v := 16) hx hb dX5_works_221 (by decide) ?_
  refine lv_iadd hx hb dX5_works_223 ?_
  refine lv_iload_n hx hb dX5_works_224 rfl (lv_at hl 2 rfl) ?_
  refine lv_iadd hx hb dX5_works_225 ?_
  refine lv_bipush (v := 31) hx hb dX5_works_226 (by decide) ?_
  refine lv_aload_n hx hb dX5_works_228 rfl (lv_at hl 0 rfl) ?_
  refine gf_X5_7 X hG hT dX5_works_229 ?_
  refine lv_iload_n hx hb dX5_works_232 rfl (lv_at hl 1 rfl) ?_
  refine lv_bipush (v := 16) hx hb dX5_works_233 (by decide) ?_
  refine lv_iadd hx hb dX5_works_235 ?_
  refine lv_iload_n hx hb dX5_works_236 rfl (lv_at hl 2 rfl) ?_
  refine lv_iadd hx hb dX5_works_237 ?_
  obtain ⟨hi13, hf⟩ := ck_some hf
  refine mw_iald X hG hT.2.1 hi13 dX5_works_238 ?_
  refine lv_imul hx hb dX5_works_239 ?_
  refine lv_iload hx hb dX5_works_240 (lv_at hl 4 rfl) ?_
  refine lv_iadd hx hb dX5_works_242 ?_
  refine lv_iload hx hb dX5_works_243 (lv_at hl 3 rfl) ?_
  refine lv_iadd hx hb dX5_works_245 ?_
  refine lv_ldc (v := 1000003) hx hb hown (hts _ wd_ct_X5_101) dX5_works_246 ?_
  obtain ⟨hz14, hf⟩ := nz_some hf
  refine lv_irem hx hb dX5_works_248 hz14 ?_
  obtain ⟨hi15, hf⟩ := ck_some hf
  refine mw_iast X hG hT.2.1 hi15 dX5_works_249 (fun M16 H locs eM16 hG => ?_)
  have hf := nm_of eM16 hf
  refine lv_aload_n hx hb dX5_works_250 rfl (lv_at hl 0 rfl) ?_
  refine gf_X5_7 X hG hT dX5_works_251 ?_
  refine lv_iload_n hx hb dX5_works_254 rfl (lv_at hl 1 rfl) ?_
  refine lv_bipush (v := 22) hx hb dX5_works_255 (by decide) ?_
  refine lv_iadd hx hb dX5_works_257 ?_
  refine lv_iload_n hx hb dX5_works_258 rfl (lv_at hl 2 rfl) ?_
  refine lv_iadd hx hb dX5_works_259 ?_
  refine lv_iload hx hb dX5_works_260 (lv_at hl 3 rfl) ?_
  obtain ⟨hi17, hf⟩ := ck_some hf
  refine mw_iast X hG hT.2.1 hi17 dX5_works_262 (fun M18 H locs eM18 hG => ?_)
  have hf := nm_of eM18 hf
  refine lv_aload_n hx hb dX5_works_263 rfl (lv_at hl 0 rfl) ?_
  refine lv_iload_n hx hb dX5_works_264 rfl (lv_at hl 1 rfl) ?_
  refine lv_iload_n hx hb dX5_works_265 rfl (lv_at hl 2 rfl) ?_
  obtain ⟨x19, hr20, hf⟩ := bd_some hf
  refine mw_callVi (rest := []) X hG hT.1 rfl (c_X5_outOf l dC dI cy a X.2.2.1 this hT M18 v1 v3 hr20) (mw_cwV X 2 g_X5_102 hd_X5_outOf ⟨rfl, rfl⟩ ⟨Nat.le_of_ble_eq_true rfl, Nat.le_of_ble_eq_true rfl⟩) rfl hl.1 rfl (Nat.le_of_ble_eq_true rfl) dX5_works_266 (fun H locs hG => ?_)
  refine lv_istore (lv' := [(7, .int x19), (0, .ref (a this)), (1, .int v1), (3, .int v3), (4, .int v4), (5, .int v5)]) hx hb dX5_works_269 hl (by decide) rfl (fun ls hl => ?_)
  refine lv_iload hx hb dX5_works_271 (lv_at hl 5 rfl) ?_
  refine lv_if_le (tgt := 404) hx hb dX5_works_273 (by decide) (fun c21 => ?_) (fun c21 => ?_)
  · have hf := itep c21 hf
    exact w_X5_works_L404 X hT hf hG (lv_sub hl [1] rfl)
  · have hf := iten c21 hf
    refine lv_iload hx hb dX5_works_276 (lv_at hl 0 rfl) ?_
    refine lv_if_le (tgt := 404) hx hb dX5_works_278 (by decide) (fun c22 => ?_) (fun c22 => ?_)
    · have hf := itep c22 hf
      exact w_X5_works_L404 X hT hf hG (lv_sub hl [1] rfl)
    · have hf := iten c22 hf
      refine lv_aload_n hx hb dX5_works_281 rfl (lv_at hl 1 rfl) ?_
      refine lv_iload_n hx hb dX5_works_282 rfl (lv_at hl 2 rfl) ?_
      refine lv_iload_n hx hb dX5_works_283 rfl (lv_at hl 3 rfl) ?_
      refine lv_iload hx hb dX5_works_284 (lv_at hl 5 rfl) ?_
      refine lv_iload hx hb dX5_works_286 (lv_at hl 0 rfl) ?_
      obtain ⟨hz23, hf⟩ := nz_some hf
      refine lv_irem hx hb dX5_works_288 hz23 ?_
      obtain ⟨x24, hr25, hf⟩ := bd_some hf
      refine mw_callVi (rest := []) X hG hT.1 rfl (c_X5_outAt l dC dI cy a X.2.2.1 this hT M18 v1 v3 (jrem v5 x19) hr25) (mw_cwV X 3 g_X5_105 hd_X5_outAt ⟨rfl, rfl⟩ ⟨Nat.le_of_ble_eq_true rfl, Nat.le_of_ble_eq_true rfl⟩) rfl hl.1 rfl (Nat.le_of_ble_eq_true rfl) dX5_works_289 (fun H locs hG => ?_)
      refine lv_istore (lv' := [(8, .int x24), (7, .int x19), (0, .ref (a this)), (1, .int v1), (3, .int v3), (4, .int v4), (5, .int v5)]) hx hb dX5_works_292 hl (by decide) rfl (fun ls hl => ?_)
      refine lv_iload hx hb dX5_works_294 (lv_at hl 5 rfl) ?_
      refine lv_aload_n hx hb dX5_works_296 rfl (lv_at hl 2 rfl) ?_
      refine gf_X5_7 X hG hT dX5_works_297 ?_
      refine lv_iload_n hx hb dX5_works_300 rfl (lv_at hl 3 rfl) ?_
      refine lv_iload hx hb dX5_works_301 (lv_at hl 0 rfl) ?_
      obtain ⟨x26, hr27, hf⟩ := bd_some hf
      refine mw_callSi (rest := [.ref (a (this + 1)), .int v4]) X hG (c_X5_at l dC dI cy a X.2.2.1  M18 v1 x24 hr27) (mw_cwS X 2 g_X5_34 hd_X5_at ⟨rfl, rfl⟩ ⟨Nat.le_of_ble_eq_true rfl, Nat.le_of_ble_eq_true rfl⟩) rfl hl.1 rfl (Nat.le_of_ble_eq_true rfl) dX5_works_303 (fun H locs hG => ?_)
      refine lv_iconst (v := 3) hx hb dX5_works_306 (by decide) ?_
      refine lv_iadd hx hb dX5_works_307 ?_
      obtain ⟨hi28, hf⟩ := ck_some hf
      refine mw_iald X hG hT.2.1 hi28 dX5_works_308 ?_
      refine lv_iadd hx hb dX5_works_309 ?_
      refine lv_topi (fun x29 ex29 => ?_)
      have hf := nm_of ex29 hf
      refine lv_istore (lv' := [(9, .int x29), (8, .int x24), (7, .int x19), (0, .ref (a this)), (1, .int v1), (3, .int v3), (4, .int v4), (5, .int v5)]) hx hb dX5_works_310 hl (by decide) rfl (fun ls hl => ?_)
      refine lv_aload_n hx hb dX5_works_312 rfl (lv_at hl 3 rfl) ?_
      refine lv_iload_n hx hb dX5_works_313 rfl (lv_at hl 4 rfl) ?_
      refine lv_aload_n hx hb dX5_works_314 rfl (lv_at hl 3 rfl) ?_
      refine gf_X5_7 X hG hT dX5_works_315 ?_
      refine lv_iload_n hx hb dX5_works_318 rfl (lv_at hl 4 rfl) ?_
      refine lv_iload hx hb dX5_works_319 (lv_at hl 1 rfl) ?_
      obtain ⟨x30, hr31, hf⟩ := bd_some hf
      refine mw_callSi (rest := [.ref (a (this + 1)), .int v1, .ref (a this)]) X hG (c_X5_at l dC dI cy a X.2.2.1  M18 v1 x24 hr31) (mw_cwS X 2 g_X5_34 hd_X5_at ⟨rfl, rfl⟩ ⟨Nat.le_of_ble_eq_true rfl, Nat.le_of_ble_eq_true rfl⟩) rfl hl.1 rfl (Nat.le_of_ble_eq_true rfl) dX5_works_321 (fun H locs hG => ?_)
      refine lv_iconst (v := 1) hx hb dX5_works_324 (by decide) ?_
      refine lv_iadd hx hb dX5_works_325 ?_
      obtain ⟨hi32, hf⟩ := ck_some hf
      refine mw_iald X hG hT.2.1 hi32 dX5_works_326 ?_
      refine lv_iload hx hb dX5_works_327 (lv_at hl 0 rfl) ?_
      refine lv_iload hx hb dX5_works_329 (lv_at hl 1 rfl) ?_
      refine lv_iload hx hb dX5_works_331 (lv_at hl 7 rfl) ?_
      refine lv_iconst (v := 1) hx hb dX5_works_333 (by decide) ?_
      refine lv_isub hx hb dX5_works_334 ?_
      obtain ⟨M33, hr35, hf⟩ := bd_some hf
      refine mw_callVv (rest := []) X hG hT.1 rfl (c_X5_comes l dC dI cy a X.2.2.1 this hT M18 v1 (rd M18 (this + 1) (x30 + (1 : Int32)).toNatClampNeg) x29 x24 (v5 - (1 : Int32)) hr35) (mw_cwV X 5 g_X5_56 hd_X5_comes ⟨rfl, rfl⟩ ⟨Nat.le_of_ble_eq_true rfl, Nat.le_of_ble_eq_true rfl⟩) rfl hl.1 rfl (Nat.le_of_ble_eq_true rfl) dX5_works_335 (fun H locs hG => ?_)
      refine lv_aload_n hx hb dX5_works_338 rfl (lv_at hl 3 rfl) ?_
      refine gf_X5_7 X hG hT dX5_works_339 ?_
      refine lv_iload_n hx hb dX5_works_342 rfl (lv_at hl 4 rfl) ?_
      refine lv_iload hx hb dX5_works_343 (lv_at hl 1 rfl) ?_
      obtain ⟨x36, hr37, hf⟩ := bd_some hf
      refine mw_callSi (rest := [.ref (a (this + 1))]) X hG (c_X5_at l dC dI cy a X.2.2.1  M33 v1 x24 hr37) (mw_cwS X 2 g_X5_34 hd_X5_at ⟨rfl, rfl⟩ ⟨Nat.le_of_ble_eq_true rfl, Nat.le_of_ble_eq_true rfl⟩) rfl hl.1 rfl (Nat.le_of_ble_eq_true rfl) dX5_works_345 (fun H locs hG => ?_)
      refine lv_iconst (v := 5) hx hb dX5_works_348 (by decide) ?_
      refine lv_iadd hx hb dX5_works_349 ?_
      refine lv_topi (fun x38 ex38 => ?_)
      have hf := nm_of ex38 hf
      refine lv_dup2_11 hx hb dX5_works_350 rfl rfl ?_
      obtain ⟨hi39, hf⟩ := ck_some hf
      refine mw_iald X hG hT.2.1 hi39 dX5_works_351 ?_
      refine lv_iconst (v := 1) hx hb dX5_works_352 (by decide) ?_
      refine lv_iadd hx hb dX5_works_353 ?_
      obtain ⟨hi40, hf⟩ := ck_some hf
      refine mw_iast X hG hT.2.1 hi40 dX5_works_354 (fun M41 H locs eM41 hG => ?_)
      have hf := nm_of eM41 hf
      refine lv_aload_n hx hb dX5_works_355 rfl (lv_at hl 3 rfl) ?_
      refine gf_X5_7 X hG hT dX5_works_356 ?_
      refine lv_iload_n hx hb dX5_works_359 rfl (lv_at hl 4 rfl) ?_
      refine lv_iload hx hb dX5_works_360 (lv_at hl 1 rfl) ?_
      obtain ⟨x42, hr43, hf⟩ := bd_some hf
      refine mw_callSi (rest := [.ref (a (this + 1))]) X hG (c_X5_at l dC dI cy a X.2.2.1  M41 v1 x24 hr43) (mw_cwS X 2 g_X5_34 hd_X5_at ⟨rfl, rfl⟩ ⟨Nat.le_of_ble_eq_true rfl, Nat.le_of_ble_eq_true rfl⟩) rfl hl.1 rfl (Nat.le_of_ble_eq_true rfl) dX5_works_362 (fun H locs hG => ?_)
      refine lv_iconst (v := 4) hx hb dX5_works_365 (by decide) ?_
      refine lv_iadd hx hb dX5_works_366 ?_
      refine lv_iload hx hb dX5_works_367 (lv_at hl 0 rfl) ?_
      refine lv_aload_n hx hb dX5_works_369 rfl (lv_at hl 3 rfl) ?_
      refine gf_X5_7 X hG hT dX5_works_370 ?_
      refine lv_iload_n hx hb dX5_works_373 rfl (lv_at hl 4 rfl) ?_
      refine lv_iload hx hb dX5_works_374 (lv_at hl 1 rfl) ?_
      obtain ⟨x44, hr45, hf⟩ := bd_some hf
      refine mw_callSi (rest := [.ref (a (this + 1)), .int x29, .int (x42 + (4 : Int32)), .ref (a (this + 1))]) X hG (c_X5_at l dC dI cy a X.2.2.1  M41 v1 x24 hr45) (mw_cwS X 2 g_X5_34 hd_X5_at ⟨rfl, rfl⟩ ⟨Nat.le_of_ble_eq_true rfl, Nat.le_of_ble_eq_true rfl⟩) rfl hl.1 rfl (Nat.le_of_ble_eq_true rfl) dX5_works_376 (fun H locs hG => ?_)
      refine lv_iconst (v := 4) hx hb dX5_works_379 (by decide) ?_
      refine lv_iadd hx hb dX5_works_380 ?_
      obtain ⟨hi46, hf⟩ := ck_some hf
      refine mw_iald X hG hT.2.1 hi46 dX5_works_381 ?_
      refine lv_icmp_le (tgt := 390) hx hb dX5_works_382 (by decide) (fun c47 => ?_) (fun c47 => ?_)
      · have hf := itep c47 hf
        refine lv_aload_n hx hb dX5_works_390 rfl (lv_at hl 3 rfl) ?_
        refine gf_X5_7 X hG hT dX5_works_391 ?_
        refine lv_iload_n hx hb dX5_works_394 rfl (lv_at hl 4 rfl) ?_
        refine lv_iload hx hb dX5_works_395 (lv_at hl 1 rfl) ?_
        obtain ⟨x48, hr49, hf⟩ := bd_some hf
        refine mw_callSi (rest := [.ref (a (this + 1)), .int (x42 + (4 : Int32)), .ref (a (this + 1))]) X hG (c_X5_at l dC dI cy a X.2.2.1  M41 v1 x24 hr49) (mw_cwS X 2 g_X5_34 hd_X5_at ⟨rfl, rfl⟩ ⟨Nat.le_of_ble_eq_true rfl, Nat.le_of_ble_eq_true rfl⟩) rfl hl.1 rfl (Nat.le_of_ble_eq_true rfl) dX5_works_397 (fun H locs hG => ?_)
        refine lv_iconst (v := 4) hx hb dX5_works_400 (by decide) ?_
        refine lv_iadd hx hb dX5_works_401 ?_
        obtain ⟨hi50, hf⟩ := ck_some hf
        refine mw_iald X hG hT.2.1 hi50 dX5_works_402 ?_
        exact w_X5_works_L403 X hT hf hG (lv_sub hl [3] rfl)
      · have hf := iten c47 hf
        refine lv_iload hx hb dX5_works_385 (lv_at hl 0 rfl) ?_
        refine lv_goto (tgt := 403) hx hb dX5_works_387 (by decide) ?_
        exact w_X5_works_L403 X hT hf hG (lv_sub hl [3] rfl)
set_option maxHeartbeats 4000000 in
set_option maxRecDepth 100000 in
theorem w_X5_works_L145 {l : Launch} {dC : Nat → ClassId} {dI : Nat → Nat → Nat} {cy : Nat → ClassId} {a : Nat → Nat} {p : Program} {e : Env} {s : State} {m : MethodId} {args : Array Value} {below : List Frame} {meth : Method} {c : Code} (X : XU dC dI cy a p s m c args meth cX5_works 10 RX5 none) {this : Nat} (hT : K5 this) {v1 : Int32} {v2 : Int32} {v3 : Int32} {v4 : Int32} {v5 : Int32} {v6 : Int32} {o : Mem} : ∀ (n : Nat) (M : Mem) (v7 : Int32) (H : Heap) (locs : List Loc) (ls : Array Slot), f_X5_works_L145 this v1 v2 v3 v4 v5 v6 n M v7 = some o → GU dC dI cy a s.heap M H locs → lv_has ls 10 [(0, .ref (a this)), (1, .int v1), (2, .int v2), (3, .int v3), (4, .int v4), (5, .int v5), (6, .int v6), (7, .int v7)] → W p l e ({ frames := 2, cells := 0, slots := 0, locals := 47 } : Room) s m args below meth c H locs 0 0 (MQ below (QUv dC dI cy a o) args s 0 0 (AU a)) (F0 m 145 ls []) := by
  have hx := X.1.1
  have hb := X.1.2.1
  have hown := X.1.2.2.2.1
  have hts := X.1.2.2.2.2
  intro n
  induction n with
  | zero => intro M v7 H locs ls hf; cases hf
  | succ n ih =>
    intro M v7 H locs ls hf hG hl
    rw [f_X5_works_L145] at hf
    refine lv_iload hx hb dX5_works_145 (lv_at hl 7 rfl) ?_
    refine lv_iconst (v := 5) hx hb dX5_works_147 (by decide) ?_
    refine lv_icmp_ge (tgt := 176) hx hb dX5_works_148 (by decide) (fun c1 => ?_) (fun c1 => ?_)
    · have hf := itep c1 hf
      exact w_X5_works_L176 X hT hf hG (lv_sub hl [0, 1, 3, 4, 5] rfl)
    · have hf := iten c1 hf
      refine lv_aload_n hx hb dX5_works_151 rfl (lv_at hl 0 rfl) ?_
      refine gf_X5_7 X hG hT dX5_works_152 ?_
      refine lv_iload_n hx hb dX5_works_155 rfl (lv_at hl 2 rfl) ?_
      refine lv_iload hx hb dX5_works_156 (lv_at hl 7 rfl) ?_
      refine lv_iadd hx hb dX5_works_158 ?_
      refine lv_aload_n hx hb dX5_works_159 rfl (lv_at hl 0 rfl) ?_
      refine gf_X5_7 X hG hT dX5_works_160 ?_
      refine lv_iload hx hb dX5_works_163 (lv_at hl 6 rfl) ?_
      refine lv_iload hx hb dX5_works_165 (lv_at hl 7 rfl) ?_
      refine lv_iadd hx hb dX5_works_167 ?_
      obtain ⟨hi2, hf⟩ := ck_some hf
      refine mw_iald X hG hT.2.1 hi2 dX5_works_168 ?_
      obtain ⟨hi3, hf⟩ := ck_some hf
      refine mw_iast X hG hT.2.1 hi3 dX5_works_169 (fun M4 H locs eM4 hG => ?_)
      have hf := nm_of eM4 hf
      obtain ⟨x5, ex5⟩ : ∃ y : Int32, y = v7 + (1 : Int32) := ⟨_, rfl⟩
      have hf := nm_of ex5 hf
      refine lv_iinc (v := x5) (lv' := [(7, .int x5), (0, .ref (a this)), (1, .int v1), (2, .int v2), (3, .int v3), (4, .int v4), (5, .int v5), (6, .int v6)]) hx hb dX5_works_170 hl (k := 7) rfl (by rw [ex5]; rfl) (by decide) rfl (fun ls hl => ?_)
      refine lv_goto (tgt := 145) hx hb dX5_works_173 (by decide) ?_
      exact ih _ _ _ _ _ hf hG (lv_sub hl [1, 2, 3, 4, 5, 6, 7, 0] rfl)
set_option maxHeartbeats 4000000 in
set_option maxRecDepth 100000 in
theorem w_X5_works_L122 {l : Launch} {dC : Nat → ClassId} {dI : Nat → Nat → Nat} {cy : Nat → ClassId} {a : Nat → Nat} {p : Program} {e : Env} {s : State} {m : MethodId} {args : Array Value} {below : List Frame} {meth : Method} {c : Code} (X : XU dC dI cy a p s m c args meth cX5_works 10 RX5 none) {M : Mem} {this : Nat} (hT : K5 this) {v1 : Int32} {v2 : Int32} {v3 : Int32} {v4 : Int32} {v5 : Int32} {o : Mem} {H : Heap} {locs : List Loc} {ls : Array Slot} (hf : f_X5_works_L122 M this v1 v2 v3 v4 v5 = some o) (hG : GU dC dI cy a s.heap M H locs) (hl : lv_has ls 10 [(0, .ref (a this)), (1, .int v1), (2, .int v2), (3, .int v3), (4, .int v4), (5, .int v5)]) : W p l e ({ frames := 2, cells := 0, slots := 0, locals := 47 } : Room) s m args below meth c H locs 0 0 (MQ below (QUv dC dI cy a o) args s 0 0 (AU a)) (F0 m 122 ls []) := by
  have hx := X.1.1
  have hb := X.1.2.1
  have hown := X.1.2.2.2.1
  have hts := X.1.2.2.2.2
  rw [f_X5_works_L122] at hf
  refine lv_iload_n hx hb dX5_works_122 rfl (lv_at hl 1 rfl) ?_
  refine lv_bipush (v := 112) hx hb dX5_works_123 (by decide) ?_
  refine lv_iadd hx hb dX5_works_125 ?_
  refine lv_iconst (v := 5) hx hb dX5_works_126 (by decide) ?_
  refine lv_aload_n hx hb dX5_works_127 rfl (lv_at hl 0 rfl) ?_
  refine gf_X5_7 X hG hT dX5_works_128 ?_
  refine lv_iload_n hx hb dX5_works_131 rfl (lv_at hl 1 rfl) ?_
  refine lv_bipush (v := 9) hx hb dX5_works_132 (by decide) ?_
  refine lv_iadd hx hb dX5_works_134 ?_
  obtain ⟨hi1, hf⟩ := ck_some hf
  refine mw_iald X hG hT.2.1 hi1 dX5_works_135 ?_
  refine lv_iconst (v := 1) hx hb dX5_works_136 (by decide) ?_
  refine lv_isub hx hb dX5_works_137 ?_
  refine lv_imul hx hb dX5_works_138 ?_
  refine lv_iadd hx hb dX5_works_139 ?_
  refine lv_topi (fun x2 ex2 => ?_)
  have hf := nm_of ex2 hf
  refine lv_istore (lv' := [(6, .int x2), (0, .ref (a this)), (1, .int v1), (2, .int v2), (3, .int v3), (4, .int v4), (5, .int v5)]) hx hb dX5_works_140 hl (by decide) rfl (fun ls hl => ?_)
  refine lv_iconst (v := 0) hx hb dX5_works_142 (by decide) ?_
  refine lv_istore (lv' := [(7, .int (0 : Int32)), (6, .int x2), (0, .ref (a this)), (1, .int v1), (2, .int v2), (3, .int v3), (4, .int v4), (5, .int v5)]) hx hb dX5_works_143 hl (by decide) rfl (fun ls hl => ?_)
  exact w_X5_works_L145 X hT 1000 _ _ _ _ _ hf hG (lv_sub hl [2, 3, 4, 5, 6, 7, 1, 0] rfl)
set_option maxHeartbeats 4000000 in
set_option maxRecDepth 100000 in
theorem c_X5_works (l : Launch) (dC : Nat → ClassId) (dI : Nat → Nat → Nat) (cy : Nat → ClassId) (a : Nat → Nat) (ha : injU a) (this : Nat) (hT : K5 this) (M : Mem) (v1 : Int32) (v2 : Int32) {o : Mem} (hf : f_X5_works M this v1 v2 = some o) : Met l yX5_works (wsU yX5_works cX5_works 10 none) ({ frames := 2, cells := 0, slots := 0, locals := 47 } : Room) (PU dC dI cy a [.ref (a this), .int v1, .int v2] M) (QUv dC dI cy a o) 0 0 (AU a) := by
  refine mw_met (by decide) ha (Nat.le_of_ble_eq_true rfl) ?_
  intro p e s m below meth c ls X hG hl
  have hl : lv_has ls 10 [(0, .ref (a this)), (1, .int v1), (2, .int v2)] := hl
  have X : XU dC dI cy a p s m c [.ref (a this), .int v1, .int v2].toArray meth cX5_works 10 RX5 none := X
  have hx := X.1.1
  have hb := X.1.2.1
  have hown := X.1.2.2.2.1
  have hts := X.1.2.2.2.2
  rw [f_X5_works] at hf
  refine lv_aload_n hx hb dX5_works_0 rfl (lv_at hl 0 rfl) ?_
  refine gf_X5_7 X hG hT dX5_works_1 ?_
  refine lv_iload_n hx hb dX5_works_4 rfl (lv_at hl 2 rfl) ?_
  refine lv_iconst (v := 0) hx hb dX5_works_5 (by decide) ?_
  refine lv_iadd hx hb dX5_works_6 ?_
  obtain ⟨hi1, hf⟩ := ck_some hf
  refine mw_iald X hG hT.2.1 hi1 dX5_works_7 ?_
  refine lv_topi (fun x2 ex2 => ?_)
  have hf := nm_of ex2 hf
  refine lv_istore_n (lv' := [(3, .int x2), (0, .ref (a this)), (1, .int v1), (2, .int v2)]) hx hb dX5_works_8 rfl hl (by decide) rfl (fun ls hl => ?_)
  refine lv_aload_n hx hb dX5_works_9 rfl (lv_at hl 1 rfl) ?_
  refine gf_X5_7 X hG hT dX5_works_10 ?_
  refine lv_iload_n hx hb dX5_works_13 rfl (lv_at hl 3 rfl) ?_
  refine lv_iconst (v := 1) hx hb dX5_works_14 (by decide) ?_
  refine lv_iadd hx hb dX5_works_15 ?_
  obtain ⟨hi3, hf⟩ := ck_some hf
  refine mw_iald X hG hT.2.1 hi3 dX5_works_16 ?_
  refine lv_topi (fun x4 ex4 => ?_)
  have hf := nm_of ex4 hf
  refine lv_istore (lv' := [(4, .int x4), (3, .int x2), (0, .ref (a this)), (1, .int v1), (2, .int v2)]) hx hb dX5_works_17 hl (by decide) rfl (fun ls hl => ?_)
  refine lv_aload_n hx hb dX5_works_19 rfl (lv_at hl 2 rfl) ?_
  refine gf_X5_7 X hG hT dX5_works_20 ?_
  refine lv_iload_n hx hb dX5_works_23 rfl (lv_at hl 4 rfl) ?_
  refine lv_iconst (v := 3) hx hb dX5_works_24 (by decide) ?_
  refine lv_iadd hx hb dX5_works_25 ?_
  obtain ⟨hi5, hf⟩ := ck_some hf
  refine mw_iald X hG hT.2.1 hi5 dX5_works_26 ?_
  refine lv_topi (fun x6 ex6 => ?_)
  have hf := nm_of ex6 hf
  refine lv_istore (lv' := [(5, .int x6), (4, .int x4), (3, .int x2), (0, .ref (a this)), (1, .int v1), (2, .int v2)]) hx hb dX5_works_27 hl (by decide) rfl (fun ls hl => ?_)
  refine lv_iload_n hx hb dX5_works_29 rfl (lv_at hl 4 rfl) ?_
  refine lv_if_ne (tgt := 122) hx hb dX5_works_30 (by decide) (fun c7 => ?_) (fun c7 => ?_)
  · have hf := iten c7 hf
    exact w_X5_works_L122 X hT hf hG (lv_sub hl [3, 4, 5, 2, 1, 0] rfl)
  · have hf := itep c7 hf
    refine lv_aload_n hx hb dX5_works_33 rfl (lv_at hl 3 rfl) ?_
    refine gf_X5_30 X hG hT dX5_works_34 ?_
    refine lv_sipush (v := 200) hx hb dX5_works_37 (by decide) ?_
    refine lv_icmp_ge (tgt := 122) hx hb dX5_works_40 (by decide) (fun c8 => ?_) (fun c8 => ?_)
    · have hf := itep c8 hf
      exact w_X5_works_L122 X hT hf hG (lv_sub hl [3, 4, 5, 2, 1, 0] rfl)
    · have hf := iten c8 hf
      refine lv_aload_n hx hb dX5_works_43 rfl (lv_at hl 3 rfl) ?_
      refine gf_X5_17 X hG hT dX5_works_44 ?_
      refine lv_iconst (v := 4) hx hb dX5_works_47 (by decide) ?_
      refine lv_aload_n hx hb dX5_works_48 rfl (lv_at hl 3 rfl) ?_
      refine gf_X5_30 X hG hT dX5_works_49 ?_
      refine lv_imul hx hb dX5_works_52 ?_
      refine lv_iload_n hx hb dX5_works_53 rfl (lv_at hl 2 rfl) ?_
      obtain ⟨hi9, hf⟩ := ck_some hf
      refine mw_iast X hG hT.2.2.2.1 hi9 dX5_works_54 (fun M10 H locs eM10 hG => ?_)
      have hf := nm_of eM10 hf
      refine lv_aload_n hx hb dX5_works_55 rfl (lv_at hl 3 rfl) ?_
      refine gf_X5_17 X hG hT dX5_works_56 ?_
      refine lv_iconst (v := 4) hx hb dX5_works_59 (by decide) ?_
      refine lv_aload_n hx hb dX5_works_60 rfl (lv_at hl 3 rfl) ?_
      refine gf_X5_30 X hG hT dX5_works_61 ?_
      refine lv_imul hx hb dX5_works_64 ?_
      refine lv_iconst (v := 1) hx hb dX5_works_65 (by decide) ?_
      refine lv_iadd hx hb dX5_works_66 ?_
      refine lv_iload hx hb dX5_works_67 (lv_at hl 1 rfl) ?_
      obtain ⟨hi11, hf⟩ := ck_some hf
      refine mw_iast X hG hT.2.2.2.1 hi11 dX5_works_69 (fun M12 H locs eM12 hG => ?_)
      have hf := nm_of eM12 hf
      refine lv_aload_n hx hb dX5_works_70 rfl (lv_at hl 3 rfl) ?_
      refine gf_X5_17 X hG hT dX5_works_71 ?_
      refine lv_iconst (v := 4) hx hb dX5_works_74 (by decide) ?_
      refine lv_aload_n hx hb dX5_works_75 rfl (lv_at hl 3 rfl) ?_
      refine gf_X5_30 X hG hT dX5_works_76 ?_
      refine lv_imul hx hb dX5_works_79 ?_
      refine lv_iconst (v := 2) hx hb dX5_works_80 (by decide) ?_
      refine lv_iadd hx hb dX5_works_81 ?_
      refine lv_iload hx hb dX5_works_82 (lv_at hl 0 rfl) ?_
      obtain ⟨hi13, hf⟩ := ck_some hf
      refine mw_iast X hG hT.2.2.2.1 hi13 dX5_works_84 (fun M14 H locs eM14 hG => ?_)
      have hf := nm_of eM14 hf
      refine lv_aload_n hx hb dX5_works_85 rfl (lv_at hl 3 rfl) ?_
      refine gf_X5_17 X hG hT dX5_works_86 ?_
      refine lv_iconst (v := 4) hx hb dX5_works_89 (by decide) ?_
      refine lv_aload_n hx hb dX5_works_90 rfl (lv_at hl 3 rfl) ?_
      refine gf_X5_30 X hG hT dX5_works_91 ?_
      refine lv_imul hx hb dX5_works_94 ?_
      refine lv_iconst (v := 3) hx hb dX5_works_95 (by decide) ?_
      refine lv_iadd hx hb dX5_works_96 ?_
      refine lv_aload_n hx hb dX5_works_97 rfl (lv_at hl 3 rfl) ?_
      refine gf_X5_7 X hG hT dX5_works_98 ?_
      refine lv_iconst (v := 5) hx hb dX5_works_101 (by decide) ?_
      obtain ⟨hi15, hf⟩ := ck_some hf
      refine mw_iald X hG hT.2.1 hi15 dX5_works_102 ?_
      refine lv_aload_n hx hb dX5_works_103 rfl (lv_at hl 3 rfl) ?_
      refine gf_X5_7 X hG hT dX5_works_104 ?_
      refine lv_bipush (v := 6) hx hb dX5_works_107 (by decide) ?_
      obtain ⟨hi16, hf⟩ := ck_some hf
      refine mw_iald X hG hT.2.1 hi16 dX5_works_109 ?_
      refine lv_iadd hx hb dX5_works_110 ?_
      obtain ⟨hi17, hf⟩ := ck_some hf
      refine mw_iast X hG hT.2.2.2.1 hi17 dX5_works_111 (fun M18 H locs eM18 hG => ?_)
      have hf := nm_of eM18 hf
      refine lv_aload_n hx hb dX5_works_112 rfl (lv_at hl 3 rfl) ?_
      refine lv_dup hx hb dX5_works_113 rfl ?_
      refine gf_X5_30 X hG hT dX5_works_114 ?_
      refine lv_iconst (v := 1) hx hb dX5_works_117 (by decide) ?_
      refine lv_iadd hx hb dX5_works_118 ?_
      refine pf_X5_30 X hG hT dX5_works_119 (fun M19 H locs eM19 hG => ?_)
      have hf := nm_of eM19 hf
      exact w_X5_works_L122 X hT hf hG (lv_sub hl [3, 4, 5, 2, 1, 0] rfl)
