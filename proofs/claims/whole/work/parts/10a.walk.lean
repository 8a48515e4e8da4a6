/-! X0_add -/
set_option maxHeartbeats 4000000 in
set_option maxRecDepth 100000 in
theorem c_X0_add (l : Launch) (dC : Nat → ClassId) (dI : Nat → Nat → Nat) (cy : Nat → ClassId) (a : Nat → Nat) (ha : injU a) (this : Nat) (hT : K0 this) (M : Mem) (v1 : Int32) (v2 : Int32) (v3 : Int32) (v4 : Int32) {o : (Int32 × Mem)} (hf : f_X0_add M this v1 v2 v3 v4 = some o) : Met l yX0_add (wsU yX0_add cX0_add 6 (some .int)) ({ frames := 0, cells := 0, slots := 0, locals := 0 } : Room) (PU dC dI cy a [.ref (a this), .int v1, .int v2, .int v3, .int v4] M) (QUi dC dI cy a o.1 o.2) 0 0 (AU a) := by
  refine mw_met (by decide) ha (Nat.le_of_ble_eq_true rfl) ?_
  intro p e s m below meth c ls X hG hl
  have hl : lv_has ls 6 [(0, .ref (a this)), (1, .int v1), (2, .int v2), (3, .int v3), (4, .int v4)] := hl
  have X : XU dC dI cy a p s m c [.ref (a this), .int v1, .int v2, .int v3, .int v4].toArray meth cX0_add 6 RX0 (some .int) := X
  have hx := X.1.1
  have hb := X.1.2.1
  have hown := X.1.2.2.2.1
  have hts := X.1.2.2.2.2
  rw [f_X0_add] at hf
  refine lv_aload_n hx hb dX0_add_0 rfl (lv_at hl 0 rfl) ?_
  refine gf_X0_33 X hG hT dX0_add_1 ?_
  refine lv_bipush (v := 12) hx hb dX0_add_4 (by decide) ?_
  refine lv_icmp_lt (tgt := 11) hx hb dX0_add_6 (by decide) (fun c1 => ?_) (fun c1 => ?_)
  · have hf := itep c1 hf
    refine lv_aload_n hx hb dX0_add_11 rfl (lv_at hl 0 rfl) ?_
    refine gf_X0_33 X hG hT dX0_add_12 ?_
    refine lv_topi (fun x2 ex2 => ?_)
    have hf := nm_of ex2 hf
    refine lv_istore (lv' := [(5, .int x2), (0, .ref (a this)), (1, .int v1), (2, .int v2), (3, .int v3), (4, .int v4)]) hx hb dX0_add_15 hl (by decide) rfl (fun ls hl => ?_)
    refine lv_aload_n hx hb dX0_add_17 rfl (lv_at hl 1 rfl) ?_
    refine gf_X0_9 X hG hT dX0_add_18 ?_
    refine lv_iload hx hb dX0_add_21 (lv_at hl 0 rfl) ?_
    refine lv_iload_n hx hb dX0_add_23 rfl (lv_at hl 2 rfl) ?_
    obtain ⟨hi3, hf⟩ := ck_some hf
    refine mw_iast X hG hT.2.1 hi3 dX0_add_24 (fun M4 H locs eM4 hG => ?_)
    have hf := nm_of eM4 hf
    refine lv_aload_n hx hb dX0_add_25 rfl (lv_at hl 1 rfl) ?_
    refine gf_X0_15 X hG hT dX0_add_26 ?_
    refine lv_iload hx hb dX0_add_29 (lv_at hl 0 rfl) ?_
    refine lv_iload_n hx hb dX0_add_31 rfl (lv_at hl 3 rfl) ?_
    obtain ⟨hi5, hf⟩ := ck_some hf
    refine mw_iast X hG hT.2.2.1 hi5 dX0_add_32 (fun M6 H locs eM6 hG => ?_)
    have hf := nm_of eM6 hf
    refine lv_aload_n hx hb dX0_add_33 rfl (lv_at hl 1 rfl) ?_
    refine gf_X0_18 X hG hT dX0_add_34 ?_
    refine lv_iload hx hb dX0_add_37 (lv_at hl 0 rfl) ?_
    refine lv_iload_n hx hb dX0_add_39 rfl (lv_at hl 4 rfl) ?_
    obtain ⟨hi7, hf⟩ := ck_some hf
    refine mw_iast X hG hT.2.2.2.1 hi7 dX0_add_40 (fun M8 H locs eM8 hG => ?_)
    have hf := nm_of eM8 hf
    refine lv_aload_n hx hb dX0_add_41 rfl (lv_at hl 1 rfl) ?_
    refine gf_X0_21 X hG hT dX0_add_42 ?_
    refine lv_iload hx hb dX0_add_45 (lv_at hl 0 rfl) ?_
    refine lv_iload hx hb dX0_add_47 (lv_at hl 5 rfl) ?_
    obtain ⟨hi9, hf⟩ := ck_some hf
    refine mw_iast X hG hT.2.2.2.2.1 hi9 dX0_add_49 (fun M10 H locs eM10 hG => ?_)
    have hf := nm_of eM10 hf
    refine lv_aload_n hx hb dX0_add_50 rfl (lv_at hl 1 rfl) ?_
    refine gf_X0_24 X hG hT dX0_add_51 ?_
    refine lv_iload hx hb dX0_add_54 (lv_at hl 0 rfl) ?_
    refine lv_iconst (v := 0) hx hb dX0_add_56 (by decide) ?_
    obtain ⟨hi11, hf⟩ := ck_some hf
    refine mw_iast X hG hT.2.2.2.2.2.1 hi11 dX0_add_57 (fun M12 H locs eM12 hG => ?_)
    have hf := nm_of eM12 hf
    refine lv_aload_n hx hb dX0_add_58 rfl (lv_at hl 1 rfl) ?_
    refine gf_X0_27 X hG hT dX0_add_59 ?_
    refine lv_iload hx hb dX0_add_62 (lv_at hl 0 rfl) ?_
    refine lv_iconst (v := 0) hx hb dX0_add_64 (by decide) ?_
    obtain ⟨hi13, hf⟩ := ck_some hf
    refine mw_iast X hG hT.2.2.2.2.2.2.1 hi13 dX0_add_65 (fun M14 H locs eM14 hG => ?_)
    have hf := nm_of eM14 hf
    refine lv_aload_n hx hb dX0_add_66 rfl (lv_at hl 1 rfl) ?_
    refine gf_X0_30 X hG hT dX0_add_67 ?_
    refine lv_iload hx hb dX0_add_70 (lv_at hl 0 rfl) ?_
    refine lv_iconst (v := 0) hx hb dX0_add_72 (by decide) ?_
    obtain ⟨hi15, hf⟩ := ck_some hf
    refine mw_iast X hG hT.2.2.2.2.2.2.2 hi15 dX0_add_73 (fun M16 H locs eM16 hG => ?_)
    have hf := nm_of eM16 hf
    refine lv_aload_n hx hb dX0_add_74 rfl (lv_at hl 1 rfl) ?_
    refine lv_dup hx hb dX0_add_75 rfl ?_
    refine gf_X0_33 X hG hT dX0_add_76 ?_
    refine lv_iconst (v := 1) hx hb dX0_add_79 (by decide) ?_
    refine lv_iadd hx hb dX0_add_80 ?_
    refine pf_X0_33 X hG hT dX0_add_81 (fun M17 H locs eM17 hG => ?_)
    have hf := nm_of eM17 hf
    refine lv_iload hx hb dX0_add_84 (lv_at hl 0 rfl) ?_
    obtain rfl := Option.some.inj hf
    exact mw_iret X hG dX0_add_86
  · have hf := iten c1 hf
    refine lv_iconst (v := -1) hx hb dX0_add_9 (by decide) ?_
    obtain rfl := Option.some.inj hf
    exact mw_iret X hG dX0_add_10
/-! X0_copyFrom -/
set_option maxHeartbeats 4000000 in
set_option maxRecDepth 100000 in
theorem c_X0_copyFrom (l : Launch) (dC : Nat → ClassId) (dI : Nat → Nat → Nat) (cy : Nat → ClassId) (a : Nat → Nat) (ha : injU a) (this : Nat) (hT : K0 this) (M : Mem) (r1 : Nat) (h1 : K0 r1) {o : Mem} (hf : f_X0_copyFrom M this r1 = some o) : Met l yX0_copyFrom (wsU yX0_copyFrom cX0_copyFrom 2 none) ({ frames := 1, cells := 0, slots := 0, locals := 40 } : Room) (PU dC dI cy a [.ref (a this), .ref (a r1)] M) (QUv dC dI cy a o) 0 0 (AU a) := by
  refine mw_met (by decide) ha (Nat.le_of_ble_eq_true rfl) ?_
  intro p e s m below meth c ls X hG hl
  have hl : lv_has ls 2 [(0, .ref (a this)), (1, .ref (a r1))] := hl
  have X : XU dC dI cy a p s m c [.ref (a this), .ref (a r1)].toArray meth cX0_copyFrom 2 RX0 none := X
  have hx := X.1.1
  have hb := X.1.2.1
  have hown := X.1.2.2.2.1
  have hts := X.1.2.2.2.2
  rw [f_X0_copyFrom] at hf
  refine lv_aload_n hx hb dX0_copyFrom_0 rfl (lv_at hl 1 rfl) ?_
  refine gf_X0_9 X hG h1 dX0_copyFrom_1 ?_
  refine lv_iconst (v := 0) hx hb dX0_copyFrom_4 (by decide) ?_
  refine lv_aload_n hx hb dX0_copyFrom_5 rfl (lv_at hl 0 rfl) ?_
  refine gf_X0_9 X hG hT dX0_copyFrom_6 ?_
  refine lv_iconst (v := 0) hx hb dX0_copyFrom_9 (by decide) ?_
  refine lv_bipush (v := 12) hx hb dX0_copyFrom_10 (by decide) ?_
  obtain ⟨hc1, hf⟩ := cpk_some hf
  refine mw_cp X hG hl.1 h1.2.1 hT.2.1 hc1 wd_ml_X0_37 ⟨Nat.le_of_ble_eq_true rfl, Nat.le_of_ble_eq_true rfl⟩ wd_na_arraycopyName wd_st_arraycopyName wd_ini_java_lang_System dX0_copyFrom_12 (fun M2 H locs eM2 hG => ?_)
  have hf := nm_of eM2 hf
  refine lv_aload_n hx hb dX0_copyFrom_15 rfl (lv_at hl 1 rfl) ?_
  refine gf_X0_15 X hG h1 dX0_copyFrom_16 ?_
  refine lv_iconst (v := 0) hx hb dX0_copyFrom_19 (by decide) ?_
  refine lv_aload_n hx hb dX0_copyFrom_20 rfl (lv_at hl 0 rfl) ?_
  refine gf_X0_15 X hG hT dX0_copyFrom_21 ?_
  refine lv_iconst (v := 0) hx hb dX0_copyFrom_24 (by decide) ?_
  refine lv_bipush (v := 12) hx hb dX0_copyFrom_25 (by decide) ?_
  obtain ⟨hc3, hf⟩ := cpk_some hf
  refine mw_cp X hG hl.1 h1.2.2.1 hT.2.2.1 hc3 wd_ml_X0_37 ⟨Nat.le_of_ble_eq_true rfl, Nat.le_of_ble_eq_true rfl⟩ wd_na_arraycopyName wd_st_arraycopyName wd_ini_java_lang_System dX0_copyFrom_27 (fun M4 H locs eM4 hG => ?_)
  have hf := nm_of eM4 hf
  refine lv_aload_n hx hb dX0_copyFrom_30 rfl (lv_at hl 1 rfl) ?_
  refine gf_X0_18 X hG h1 dX0_copyFrom_31 ?_
  refine lv_iconst (v := 0) hx hb dX0_copyFrom_34 (by decide) ?_
  refine lv_aload_n hx hb dX0_copyFrom_35 rfl (lv_at hl 0 rfl) ?_
  refine gf_X0_18 X hG hT dX0_copyFrom_36 ?_
  refine lv_iconst (v := 0) hx hb dX0_copyFrom_39 (by decide) ?_
  refine lv_bipush (v := 12) hx hb dX0_copyFrom_40 (by decide) ?_
  obtain ⟨hc5, hf⟩ := cpk_some hf
  refine mw_cp X hG hl.1 h1.2.2.2.1 hT.2.2.2.1 hc5 wd_ml_X0_37 ⟨Nat.le_of_ble_eq_true rfl, Nat.le_of_ble_eq_true rfl⟩ wd_na_arraycopyName wd_st_arraycopyName wd_ini_java_lang_System dX0_copyFrom_42 (fun M6 H locs eM6 hG => ?_)
  have hf := nm_of eM6 hf
  refine lv_aload_n hx hb dX0_copyFrom_45 rfl (lv_at hl 1 rfl) ?_
  refine gf_X0_21 X hG h1 dX0_copyFrom_46 ?_
  refine lv_iconst (v := 0) hx hb dX0_copyFrom_49 (by decide) ?_
  refine lv_aload_n hx hb dX0_copyFrom_50 rfl (lv_at hl 0 rfl) ?_
  refine gf_X0_21 X hG hT dX0_copyFrom_51 ?_
  refine lv_iconst (v := 0) hx hb dX0_copyFrom_54 (by decide) ?_
  refine lv_bipush (v := 12) hx hb dX0_copyFrom_55 (by decide) ?_
  obtain ⟨hc7, hf⟩ := cpk_some hf
  refine mw_cp X hG hl.1 h1.2.2.2.2.1 hT.2.2.2.2.1 hc7 wd_ml_X0_37 ⟨Nat.le_of_ble_eq_true rfl, Nat.le_of_ble_eq_true rfl⟩ wd_na_arraycopyName wd_st_arraycopyName wd_ini_java_lang_System dX0_copyFrom_57 (fun M8 H locs eM8 hG => ?_)
  have hf := nm_of eM8 hf
  refine lv_aload_n hx hb dX0_copyFrom_60 rfl (lv_at hl 1 rfl) ?_
  refine gf_X0_24 X hG h1 dX0_copyFrom_61 ?_
  refine lv_iconst (v := 0) hx hb dX0_copyFrom_64 (by decide) ?_
  refine lv_aload_n hx hb dX0_copyFrom_65 rfl (lv_at hl 0 rfl) ?_
  refine gf_X0_24 X hG hT dX0_copyFrom_66 ?_
  refine lv_iconst (v := 0) hx hb dX0_copyFrom_69 (by decide) ?_
  refine lv_bipush (v := 12) hx hb dX0_copyFrom_70 (by decide) ?_
  obtain ⟨hc9, hf⟩ := cpk_some hf
  refine mw_cp X hG hl.1 h1.2.2.2.2.2.1 hT.2.2.2.2.2.1 hc9 wd_ml_X0_37 ⟨Nat.le_of_ble_eq_true rfl, Nat.le_of_ble_eq_true rfl⟩ wd_na_arraycopyName wd_st_arraycopyName wd_ini_java_lang_System dX0_copyFrom_72 (fun M10 H locs eM10 hG => ?_)
  have hf := nm_of eM10 hf
  refine lv_aload_n hx hb dX0_copyFrom_75 rfl (lv_at hl 1 rfl) ?_
  refine gf_X0_27 X hG h1 dX0_copyFrom_76 ?_
  refine lv_iconst (v := 0) hx hb dX0_copyFrom_79 (by decide) ?_
  refine lv_aload_n hx hb dX0_copyFrom_80 rfl (lv_at hl 0 rfl) ?_
  refine gf_X0_27 X hG hT dX0_copyFrom_81 ?_
  refine lv_iconst (v := 0) hx hb dX0_copyFrom_84 (by decide) ?_
  refine lv_bipush (v := 12) hx hb dX0_copyFrom_85 (by decide) ?_
  obtain ⟨hc11, hf⟩ := cpk_some hf
  refine mw_cp X hG hl.1 h1.2.2.2.2.2.2.1 hT.2.2.2.2.2.2.1 hc11 wd_ml_X0_37 ⟨Nat.le_of_ble_eq_true rfl, Nat.le_of_ble_eq_true rfl⟩ wd_na_arraycopyName wd_st_arraycopyName wd_ini_java_lang_System dX0_copyFrom_87 (fun M12 H locs eM12 hG => ?_)
  have hf := nm_of eM12 hf
  refine lv_aload_n hx hb dX0_copyFrom_90 rfl (lv_at hl 1 rfl) ?_
  refine gf_X0_30 X hG h1 dX0_copyFrom_91 ?_
  refine lv_iconst (v := 0) hx hb dX0_copyFrom_94 (by decide) ?_
  refine lv_aload_n hx hb dX0_copyFrom_95 rfl (lv_at hl 0 rfl) ?_
  refine gf_X0_30 X hG hT dX0_copyFrom_96 ?_
  refine lv_iconst (v := 0) hx hb dX0_copyFrom_99 (by decide) ?_
  refine lv_bipush (v := 12) hx hb dX0_copyFrom_100 (by decide) ?_
  obtain ⟨hc13, hf⟩ := cpk_some hf
  refine mw_cp X hG hl.1 h1.2.2.2.2.2.2.2 hT.2.2.2.2.2.2.2 hc13 wd_ml_X0_37 ⟨Nat.le_of_ble_eq_true rfl, Nat.le_of_ble_eq_true rfl⟩ wd_na_arraycopyName wd_st_arraycopyName wd_ini_java_lang_System dX0_copyFrom_102 (fun M14 H locs eM14 hG => ?_)
  have hf := nm_of eM14 hf
  refine lv_aload_n hx hb dX0_copyFrom_105 rfl (lv_at hl 0 rfl) ?_
  refine lv_aload_n hx hb dX0_copyFrom_106 rfl (lv_at hl 1 rfl) ?_
  refine gf_X0_33 X hG h1 dX0_copyFrom_107 ?_
  refine pf_X0_33 X hG hT dX0_copyFrom_110 (fun M15 H locs eM15 hG => ?_)
  have hf := nm_of eM15 hf
  obtain rfl := Option.some.inj hf
  exact mw_vret X hG dX0_copyFrom_113
/-! X0_find -/
set_option maxHeartbeats 4000000 in
set_option maxRecDepth 100000 in
theorem w_X0_find_L32 {l : Launch} {dC : Nat → ClassId} {dI : Nat → Nat → Nat} {cy : Nat → ClassId} {a : Nat → Nat} {p : Program} {e : Env} {s : State} {m : MethodId} {args : Array Value} {below : List Frame} {meth : Method} {c : Code} (X : XU dC dI cy a p s m c args meth cX0_find 4 RX0 (some .int)) {M : Mem} {this : Nat} (hT : K0 this) {v1 : Int32} {v2 : Int32} {v3 : Int32} {o : Int32} {k2 : Int32 → Option Int32} (hk2 : ∀ (v3 : Int32) (H : Heap) (locs : List Loc) (ls : Array Slot), k2 v3 = some o → GU dC dI cy a s.heap M H locs → lv_has ls 4 [(0, .ref (a this)), (1, .int v1), (2, .int v2), (3, .int v3)] → W p l e ({ frames := 0, cells := 0, slots := 0, locals := 0 } : Room) s m args below meth c H locs 0 0 (MQ below (QUi dC dI cy a o M) args s 0 0 (AU a)) (F0 m 2 ls [])) {H : Heap} {locs : List Loc} {ls : Array Slot} (hf : f_X0_find_L32 k2 M this v1 v2 v3 = some o) (hG : GU dC dI cy a s.heap M H locs) (hl : lv_has ls 4 [(0, .ref (a this)), (1, .int v1), (2, .int v2), (3, .int v3)]) : W p l e ({ frames := 0, cells := 0, slots := 0, locals := 0 } : Room) s m args below meth c H locs 0 0 (MQ below (QUi dC dI cy a o M) args s 0 0 (AU a)) (F0 m 32 ls []) := by
  have hx := X.1.1
  have hb := X.1.2.1
  have hown := X.1.2.2.2.1
  have hts := X.1.2.2.2.2
  rw [f_X0_find_L32] at hf
  obtain ⟨x1, ex1⟩ : ∃ y : Int32, y = v3 + (1 : Int32) := ⟨_, rfl⟩
  have hf := nm_of ex1 hf
  refine lv_iinc (v := x1) (lv' := [(3, .int x1), (0, .ref (a this)), (1, .int v1), (2, .int v2)]) hx hb dX0_find_32 hl (k := 3) rfl (by rw [ex1]; rfl) (by decide) rfl (fun ls hl => ?_)
  refine lv_goto (tgt := 2) hx hb dX0_find_35 (by decide) ?_
  exact hk2 _ _ _ _ hf hG (lv_sub hl [1, 2, 3, 0] rfl)
set_option maxHeartbeats 4000000 in
set_option maxRecDepth 100000 in
theorem w_X0_find_L2 {l : Launch} {dC : Nat → ClassId} {dI : Nat → Nat → Nat} {cy : Nat → ClassId} {a : Nat → Nat} {p : Program} {e : Env} {s : State} {m : MethodId} {args : Array Value} {below : List Frame} {meth : Method} {c : Code} (X : XU dC dI cy a p s m c args meth cX0_find 4 RX0 (some .int)) {M : Mem} {this : Nat} (hT : K0 this) {v1 : Int32} {v2 : Int32} {o : Int32} : ∀ (n : Nat) (v3 : Int32) (H : Heap) (locs : List Loc) (ls : Array Slot), f_X0_find_L2 M this v1 v2 n v3 = some o → GU dC dI cy a s.heap M H locs → lv_has ls 4 [(0, .ref (a this)), (1, .int v1), (2, .int v2), (3, .int v3)] → W p l e ({ frames := 0, cells := 0, slots := 0, locals := 0 } : Room) s m args below meth c H locs 0 0 (MQ below (QUi dC dI cy a o M) args s 0 0 (AU a)) (F0 m 2 ls []) := by
  have hx := X.1.1
  have hb := X.1.2.1
  have hown := X.1.2.2.2.1
  have hts := X.1.2.2.2.2
  intro n
  induction n with
  | zero => intro v3 H locs ls hf; cases hf
  | succ n ih =>
    intro v3 H locs ls hf hG hl
    rw [f_X0_find_L2] at hf
    refine lv_iload_n hx hb dX0_find_2 rfl (lv_at hl 3 rfl) ?_
    refine lv_aload_n hx hb dX0_find_3 rfl (lv_at hl 0 rfl) ?_
    refine gf_X0_33 X hG hT dX0_find_4 ?_
    refine lv_icmp_ge (tgt := 38) hx hb dX0_find_7 (by decide) (fun c1 => ?_) (fun c1 => ?_)
    · have hf := itep c1 hf
      refine lv_iconst (v := -1) hx hb dX0_find_38 (by decide) ?_
      obtain rfl := Option.some.inj hf
      exact mw_iret X hG dX0_find_39
    · have hf := iten c1 hf
      refine lv_aload_n hx hb dX0_find_10 rfl (lv_at hl 0 rfl) ?_
      refine gf_X0_9 X hG hT dX0_find_11 ?_
      refine lv_iload_n hx hb dX0_find_14 rfl (lv_at hl 3 rfl) ?_
      obtain ⟨hi2, hf⟩ := ck_some hf
      refine mw_iald X hG hT.2.1 hi2 dX0_find_15 ?_
      refine lv_iload_n hx hb dX0_find_16 rfl (lv_at hl 1 rfl) ?_
      refine lv_icmp_ne (tgt := 32) hx hb dX0_find_17 (by decide) (fun c3 => ?_) (fun c3 => ?_)
      · have hf := iten c3 hf
        exact w_X0_find_L32 X hT ih hf hG (lv_sub hl [0, 1, 2, 3] rfl)
      · have hf := itep c3 hf
        refine lv_aload_n hx hb dX0_find_20 rfl (lv_at hl 0 rfl) ?_
        refine gf_X0_15 X hG hT dX0_find_21 ?_
        refine lv_iload_n hx hb dX0_find_24 rfl (lv_at hl 3 rfl) ?_
        obtain ⟨hi4, hf⟩ := ck_some hf
        refine mw_iald X hG hT.2.2.1 hi4 dX0_find_25 ?_
        refine lv_iload_n hx hb dX0_find_26 rfl (lv_at hl 2 rfl) ?_
        refine lv_icmp_ne (tgt := 32) hx hb dX0_find_27 (by decide) (fun c5 => ?_) (fun c5 => ?_)
        · have hf := iten c5 hf
          exact w_X0_find_L32 X hT ih hf hG (lv_sub hl [0, 1, 2, 3] rfl)
        · have hf := itep c5 hf
          refine lv_iload_n hx hb dX0_find_30 rfl (lv_at hl 3 rfl) ?_
          obtain rfl := Option.some.inj hf
          exact mw_iret X hG dX0_find_31
set_option maxHeartbeats 4000000 in
set_option maxRecDepth 100000 in
theorem c_X0_find (l : Launch) (dC : Nat → ClassId) (dI : Nat → Nat → Nat) (cy : Nat → ClassId) (a : Nat → Nat) (ha : injU a) (this : Nat) (hT : K0 this) (M : Mem) (v1 : Int32) (v2 : Int32) {o : Int32} (hf : f_X0_find M this v1 v2 = some o) : Met l yX0_find (wsU yX0_find cX0_find 4 (some .int)) ({ frames := 0, cells := 0, slots := 0, locals := 0 } : Room) (PU dC dI cy a [.ref (a this), .int v1, .int v2] M) (QUi dC dI cy a o M) 0 0 (AU a) := by
  refine mw_met (by decide) ha (Nat.le_of_ble_eq_true rfl) ?_
  intro p e s m below meth c ls X hG hl
  have hl : lv_has ls 4 [(0, .ref (a this)), (1, .int v1), (2, .int v2)] := hl
  have X : XU dC dI cy a p s m c [.ref (a this), .int v1, .int v2].toArray meth cX0_find 4 RX0 (some .int) := X
  have hx := X.1.1
  have hb := X.1.2.1
  have hown := X.1.2.2.2.1
  have hts := X.1.2.2.2.2
  rw [f_X0_find] at hf
  refine lv_iconst (v := 0) hx hb dX0_find_0 (by decide) ?_
  refine lv_istore_n (lv' := [(3, .int (0 : Int32)), (0, .ref (a this)), (1, .int v1), (2, .int v2)]) hx hb dX0_find_1 rfl hl (by decide) rfl (fun ls hl => ?_)
  exact w_X0_find_L2 X hT 1000 _ _ _ _ hf hG (lv_sub hl [1, 2, 3, 0] rfl)
/-! X0_countFrom -/
set_option maxHeartbeats 4000000 in
set_option maxRecDepth 100000 in
theorem w_X0_countFrom_L25 {l : Launch} {dC : Nat → ClassId} {dI : Nat → Nat → Nat} {cy : Nat → ClassId} {a : Nat → Nat} {p : Program} {e : Env} {s : State} {m : MethodId} {args : Array Value} {below : List Frame} {meth : Method} {c : Code} (X : XU dC dI cy a p s m c args meth cX0_countFrom 4 RX0 (some .int)) {M : Mem} {this : Nat} (hT : K0 this) {v1 : Int32} {v2 : Int32} {v3 : Int32} {o : Int32} {k4 : Int32 → Int32 → Option Int32} (hk4 : ∀ (v2 : Int32) (v3 : Int32) (H : Heap) (locs : List Loc) (ls : Array Slot), k4 v2 v3 = some o → GU dC dI cy a s.heap M H locs → lv_has ls 4 [(0, .ref (a this)), (1, .int v1), (2, .int v2), (3, .int v3)] → W p l e ({ frames := 0, cells := 0, slots := 0, locals := 0 } : Room) s m args below meth c H locs 0 0 (MQ below (QUi dC dI cy a o M) args s 0 0 (AU a)) (F0 m 4 ls [])) {H : Heap} {locs : List Loc} {ls : Array Slot} (hf : f_X0_countFrom_L25 k4 M this v1 v2 v3 = some o) (hG : GU dC dI cy a s.heap M H locs) (hl : lv_has ls 4 [(0, .ref (a this)), (1, .int v1), (2, .int v2), (3, .int v3)]) : W p l e ({ frames := 0, cells := 0, slots := 0, locals := 0 } : Room) s m args below meth c H locs 0 0 (MQ below (QUi dC dI cy a o M) args s 0 0 (AU a)) (F0 m 25 ls []) := by
  have hx := X.1.1
  have hb := X.1.2.1
  have hown := X.1.2.2.2.1
  have hts := X.1.2.2.2.2
  rw [f_X0_countFrom_L25] at hf
  obtain ⟨x1, ex1⟩ : ∃ y : Int32, y = v3 + (1 : Int32) := ⟨_, rfl⟩
  have hf := nm_of ex1 hf
  refine lv_iinc (v := x1) (lv' := [(3, .int x1), (0, .ref (a this)), (1, .int v1), (2, .int v2)]) hx hb dX0_countFrom_25 hl (k := 3) rfl (by rw [ex1]; rfl) (by decide) rfl (fun ls hl => ?_)
  refine lv_goto (tgt := 4) hx hb dX0_countFrom_28 (by decide) ?_
  exact hk4 _ _ _ _ _ hf hG (lv_sub hl [1, 2, 3, 0] rfl)
set_option maxHeartbeats 4000000 in
set_option maxRecDepth 100000 in
theorem w_X0_countFrom_L4 {l : Launch} {dC : Nat → ClassId} {dI : Nat → Nat → Nat} {cy : Nat → ClassId} {a : Nat → Nat} {p : Program} {e : Env} {s : State} {m : MethodId} {args : Array Value} {below : List Frame} {meth : Method} {c : Code} (X : XU dC dI cy a p s m c args meth cX0_countFrom 4 RX0 (some .int)) {M : Mem} {this : Nat} (hT : K0 this) {v1 : Int32} {o : Int32} : ∀ (n : Nat) (v2 : Int32) (v3 : Int32) (H : Heap) (locs : List Loc) (ls : Array Slot), f_X0_countFrom_L4 M this v1 n v2 v3 = some o → GU dC dI cy a s.heap M H locs → lv_has ls 4 [(0, .ref (a this)), (1, .int v1), (2, .int v2), (3, .int v3)] → W p l e ({ frames := 0, cells := 0, slots := 0, locals := 0 } : Room) s m args below meth c H locs 0 0 (MQ below (QUi dC dI cy a o M) args s 0 0 (AU a)) (F0 m 4 ls []) := by
  have hx := X.1.1
  have hb := X.1.2.1
  have hown := X.1.2.2.2.1
  have hts := X.1.2.2.2.2
  intro n
  induction n with
  | zero => intro v2 v3 H locs ls hf; cases hf
  | succ n ih =>
    intro v2 v3 H locs ls hf hG hl
    rw [f_X0_countFrom_L4] at hf
    refine lv_iload_n hx hb dX0_countFrom_4 rfl (lv_at hl 3 rfl) ?_
    refine lv_aload_n hx hb dX0_countFrom_5 rfl (lv_at hl 0 rfl) ?_
    refine gf_X0_33 X hG hT dX0_countFrom_6 ?_
    refine lv_icmp_ge (tgt := 31) hx hb dX0_countFrom_9 (by decide) (fun c1 => ?_) (fun c1 => ?_)
    · have hf := itep c1 hf
      refine lv_iload_n hx hb dX0_countFrom_31 rfl (lv_at hl 2 rfl) ?_
      obtain rfl := Option.some.inj hf
      exact mw_iret X hG dX0_countFrom_32
    · have hf := iten c1 hf
      refine lv_aload_n hx hb dX0_countFrom_12 rfl (lv_at hl 0 rfl) ?_
      refine gf_X0_9 X hG hT dX0_countFrom_13 ?_
      refine lv_iload_n hx hb dX0_countFrom_16 rfl (lv_at hl 3 rfl) ?_
      obtain ⟨hi2, hf⟩ := ck_some hf
      refine mw_iald X hG hT.2.1 hi2 dX0_countFrom_17 ?_
      refine lv_iload_n hx hb dX0_countFrom_18 rfl (lv_at hl 1 rfl) ?_
      refine lv_icmp_ne (tgt := 25) hx hb dX0_countFrom_19 (by decide) (fun c3 => ?_) (fun c3 => ?_)
      · have hf := iten c3 hf
        exact w_X0_countFrom_L25 X hT ih hf hG (lv_sub hl [0, 1, 2, 3] rfl)
      · have hf := itep c3 hf
        obtain ⟨x4, ex4⟩ : ∃ y : Int32, y = v2 + (1 : Int32) := ⟨_, rfl⟩
        have hf := nm_of ex4 hf
        refine lv_iinc (v := x4) (lv' := [(2, .int x4), (0, .ref (a this)), (1, .int v1), (3, .int v3)]) hx hb dX0_countFrom_22 hl (k := 2) rfl (by rw [ex4]; rfl) (by decide) rfl (fun ls hl => ?_)
        exact w_X0_countFrom_L25 X hT ih hf hG (lv_sub hl [1, 2, 0, 3] rfl)
set_option maxHeartbeats 4000000 in
set_option maxRecDepth 100000 in
theorem c_X0_countFrom (l : Launch) (dC : Nat → ClassId) (dI : Nat → Nat → Nat) (cy : Nat → ClassId) (a : Nat → Nat) (ha : injU a) (this : Nat) (hT : K0 this) (M : Mem) (v1 : Int32) {o : Int32} (hf : f_X0_countFrom M this v1 = some o) : Met l yX0_countFrom (wsU yX0_countFrom cX0_countFrom 4 (some .int)) ({ frames := 0, cells := 0, slots := 0, locals := 0 } : Room) (PU dC dI cy a [.ref (a this), .int v1] M) (QUi dC dI cy a o M) 0 0 (AU a) := by
  refine mw_met (by decide) ha (Nat.le_of_ble_eq_true rfl) ?_
  intro p e s m below meth c ls X hG hl
  have hl : lv_has ls 4 [(0, .ref (a this)), (1, .int v1)] := hl
  have X : XU dC dI cy a p s m c [.ref (a this), .int v1].toArray meth cX0_countFrom 4 RX0 (some .int) := X
  have hx := X.1.1
  have hb := X.1.2.1
  have hown := X.1.2.2.2.1
  have hts := X.1.2.2.2.2
  rw [f_X0_countFrom] at hf
  refine lv_iconst (v := 0) hx hb dX0_countFrom_0 (by decide) ?_
  refine lv_istore_n (lv' := [(2, .int (0 : Int32)), (0, .ref (a this)), (1, .int v1)]) hx hb dX0_countFrom_1 rfl hl (by decide) rfl (fun ls hl => ?_)
  refine lv_iconst (v := 0) hx hb dX0_countFrom_2 (by decide) ?_
  refine lv_istore_n (lv' := [(3, .int (0 : Int32)), (2, .int (0 : Int32)), (0, .ref (a this)), (1, .int v1)]) hx hb dX0_countFrom_3 rfl hl (by decide) rfl (fun ls hl => ?_)
  exact w_X0_countFrom_L4 X hT 1000 _ _ _ _ _ hf hG (lv_sub hl [2, 3, 1, 0] rfl)
/-! X0_countTo -/
set_option maxHeartbeats 4000000 in
set_option maxRecDepth 100000 in
theorem w_X0_countTo_L25 {l : Launch} {dC : Nat → ClassId} {dI : Nat → Nat → Nat} {cy : Nat → ClassId} {a : Nat → Nat} {p : Program} {e : Env} {s : State} {m : MethodId} {args : Array Value} {below : List Frame} {meth : Method} {c : Code} (X : XU dC dI cy a p s m c args meth cX0_countTo 4 RX0 (some .int)) {M : Mem} {this : Nat} (hT : K0 this) {v1 : Int32} {v2 : Int32} {v3 : Int32} {o : Int32} {k4 : Int32 → Int32 → Option Int32} (hk4 : ∀ (v2 : Int32) (v3 : Int32) (H : Heap) (locs : List Loc) (ls : Array Slot), k4 v2 v3 = some o → GU dC dI cy a s.heap M H locs → lv_has ls 4 [(0, .ref (a this)), (1, .int v1), (2, .int v2), (3, .int v3)] → W p l e ({ frames := 0, cells := 0, slots := 0, locals := 0 } : Room) s m args below meth c H locs 0 0 (MQ below (QUi dC dI cy a o M) args s 0 0 (AU a)) (F0 m 4 ls [])) {H : Heap} {locs : List Loc} {ls : Array Slot} (hf : f_X0_countTo_L25 k4 M this v1 v2 v3 = some o) (hG : GU dC dI cy a s.heap M H locs) (hl : lv_has ls 4 [(0, .ref (a this)), (1, .int v1), (2, .int v2), (3, .int v3)]) : W p l e ({ frames := 0, cells := 0, slots := 0, locals := 0 } : Room) s m args below meth c H locs 0 0 (MQ below (QUi dC dI cy a o M) args s 0 0 (AU a)) (F0 m 25 ls []) := by
  have hx := X.1.1
  have hb := X.1.2.1
  have hown := X.1.2.2.2.1
  have hts := X.1.2.2.2.2
  rw [f_X0_countTo_L25] at hf
  obtain ⟨x1, ex1⟩ : ∃ y : Int32, y = v3 + (1 : Int32) := ⟨_, rfl⟩
  have hf := nm_of ex1 hf
  refine lv_iinc (v := x1) (lv' := [(3, .int x1), (0, .ref (a this)), (1, .int v1), (2, .int v2)]) hx hb dX0_countTo_25 hl (k := 3) rfl (by rw [ex1]; rfl) (by decide) rfl (fun ls hl => ?_)
  refine lv_goto (tgt := 4) hx hb dX0_countTo_28 (by decide) ?_
  exact hk4 _ _ _ _ _ hf hG (lv_sub hl [1, 2, 3, 0] rfl)
set_option maxHeartbeats 4000000 in
set_option maxRecDepth 100000 in
theorem w_X0_countTo_L4 {l : Launch} {dC : Nat → ClassId} {dI : Nat → Nat → Nat} {cy : Nat → ClassId} {a : Nat → Nat} {p : Program} {e : Env} {s : State} {m : MethodId} {args : Array Value} {below : List Frame} {meth : Method} {c : Code} (X : XU dC dI cy a p s m c args meth cX0_countTo 4 RX0 (some .int)) {M : Mem} {this : Nat} (hT : K0 this) {v1 : Int32} {o : Int32} : ∀ (n : Nat) (v2 : Int32) (v3 : Int32) (H : Heap) (locs : List Loc) (ls : Array Slot), f_X0_countTo_L4 M this v1 n v2 v3 = some o → GU dC dI cy a s.heap M H locs → lv_has ls 4 [(0, .ref (a this)), (1, .int v1), (2, .int v2), (3, .int v3)] → W p l e ({ frames := 0, cells := 0, slots := 0, locals := 0 } : Room) s m args below meth c H locs 0 0 (MQ below (QUi dC dI cy a o M) args s 0 0 (AU a)) (F0 m 4 ls []) := by
  have hx := X.1.1
  have hb := X.1.2.1
  have hown := X.1.2.2.2.1
  have hts := X.1.2.2.2.2
  intro n
  induction n with
  | zero => intro v2 v3 H locs ls hf; cases hf
  | succ n ih =>
    intro v2 v3 H locs ls hf hG hl
    rw [f_X0_countTo_L4] at hf
    refine lv_iload_n hx hb dX0_countTo_4 rfl (lv_at hl 3 rfl) ?_
    refine lv_aload_n hx hb dX0_countTo_5 rfl (lv_at hl 0 rfl) ?_
    refine gf_X0_33 X hG hT dX0_countTo_6 ?_
    refine lv_icmp_ge (tgt := 31) hx hb dX0_countTo_9 (by decide) (fun c1 => ?_) (fun c1 => ?_)
    · have hf := itep c1 hf
      refine lv_iload_n hx hb dX0_countTo_31 rfl (lv_at hl 2 rfl) ?_
      obtain rfl := Option.some.inj hf
      exact mw_iret X hG dX0_countTo_32
    · have hf := iten c1 hf
      refine lv_aload_n hx hb dX0_countTo_12 rfl (lv_at hl 0 rfl) ?_
      refine gf_X0_15 X hG hT dX0_countTo_13 ?_
      refine lv_iload_n hx hb dX0_countTo_16 rfl (lv_at hl 3 rfl) ?_
      obtain ⟨hi2, hf⟩ := ck_some hf
      refine mw_iald X hG hT.2.2.1 hi2 dX0_countTo_17 ?_
      refine lv_iload_n hx hb dX0_countTo_18 rfl (lv_at hl 1 rfl) ?_
      refine lv_icmp_ne (tgt := 25) hx hb dX0_countTo_19 (by decide) (fun c3 => ?_) (fun c3 => ?_)
      · have hf := iten c3 hf
        exact w_X0_countTo_L25 X hT ih hf hG (lv_sub hl [0, 1, 2, 3] rfl)
      · have hf := itep c3 hf
        obtain ⟨x4, ex4⟩ : ∃ y : Int32, y = v2 + (1 : Int32) := ⟨_, rfl⟩
        have hf := nm_of ex4 hf
        refine lv_iinc (v := x4) (lv' := [(2, .int x4), (0, .ref (a this)), (1, .int v1), (3, .int v3)]) hx hb dX0_countTo_22 hl (k := 2) rfl (by rw [ex4]; rfl) (by decide) rfl (fun ls hl => ?_)
        exact w_X0_countTo_L25 X hT ih hf hG (lv_sub hl [1, 2, 0, 3] rfl)
set_option maxHeartbeats 4000000 in
set_option maxRecDepth 100000 in
theorem c_X0_countTo (l : Launch) (dC : Nat → ClassId) (dI : Nat → Nat → Nat) (cy : Nat → ClassId) (a : Nat → Nat) (ha : injU a) (this : Nat) (hT : K0 this) (M : Mem) (v1 : Int32) {o : Int32} (hf : f_X0_countTo M this v1 = some o) : Met l yX0_countTo (wsU yX0_countTo cX0_countTo 4 (some .int)) ({ frames := 0, cells := 0, slots := 0, locals := 0 } : Room) (PU dC dI cy a [.ref (a this), .int v1] M) (QUi dC dI cy a o M) 0 0 (AU a) := by
  refine mw_met (by decide) ha (Nat.le_of_ble_eq_true rfl) ?_
  intro p e s m below meth c ls X hG hl
  have hl : lv_has ls 4 [(0, .ref (a this)), (1, .int v1)] := hl
  have X : XU dC dI cy a p s m c [.ref (a this), .int v1].toArray meth cX0_countTo 4 RX0 (some .int) := X
  have hx := X.1.1
  have hb := X.1.2.1
  have hown := X.1.2.2.2.1
  have hts := X.1.2.2.2.2
  rw [f_X0_countTo] at hf
  refine lv_iconst (v := 0) hx hb dX0_countTo_0 (by decide) ?_
  refine lv_istore_n (lv' := [(2, .int (0 : Int32)), (0, .ref (a this)), (1, .int v1)]) hx hb dX0_countTo_1 rfl hl (by decide) rfl (fun ls hl => ?_)
  refine lv_iconst (v := 0) hx hb dX0_countTo_2 (by decide) ?_
  refine lv_istore_n (lv' := [(3, .int (0 : Int32)), (2, .int (0 : Int32)), (0, .ref (a this)), (1, .int v1)]) hx hb dX0_countTo_3 rfl hl (by decide) rfl (fun ls hl => ?_)
  exact w_X0_countTo_L4 X hT 1000 _ _ _ _ _ hf hG (lv_sub hl [2, 3, 1, 0] rfl)
/-! X0_atPlaceFrom -/
set_option maxHeartbeats 4000000 in
set_option maxRecDepth 100000 in
theorem w_X0_atPlaceFrom_L36 {l : Launch} {dC : Nat → ClassId} {dI : Nat → Nat → Nat} {cy : Nat → ClassId} {a : Nat → Nat} {p : Program} {e : Env} {s : State} {m : MethodId} {args : Array Value} {below : List Frame} {meth : Method} {c : Code} (X : XU dC dI cy a p s m c args meth cX0_atPlaceFrom 5 RX0 (some .int)) {M : Mem} {this : Nat} (hT : K0 this) {v1 : Int32} {v2 : Int32} {v3 : Int32} {v4 : Int32} {o : Int32} {k5 : Int32 → Int32 → Option Int32} (hk5 : ∀ (v3 : Int32) (v4 : Int32) (H : Heap) (locs : List Loc) (ls : Array Slot), k5 v3 v4 = some o → GU dC dI cy a s.heap M H locs → lv_has ls 5 [(0, .ref (a this)), (1, .int v1), (2, .int v2), (3, .int v3), (4, .int v4)] → W p l e ({ frames := 0, cells := 0, slots := 0, locals := 0 } : Room) s m args below meth c H locs 0 0 (MQ below (QUi dC dI cy a o M) args s 0 0 (AU a)) (F0 m 5 ls [])) {H : Heap} {locs : List Loc} {ls : Array Slot} (hf : f_X0_atPlaceFrom_L36 k5 M this v1 v2 v3 v4 = some o) (hG : GU dC dI cy a s.heap M H locs) (hl : lv_has ls 5 [(0, .ref (a this)), (1, .int v1), (2, .int v2), (3, .int v3), (4, .int v4)]) : W p l e ({ frames := 0, cells := 0, slots := 0, locals := 0 } : Room) s m args below meth c H locs 0 0 (MQ below (QUi dC dI cy a o M) args s 0 0 (AU a)) (F0 m 36 ls []) := by
  have hx := X.1.1
  have hb := X.1.2.1
  have hown := X.1.2.2.2.1
  have hts := X.1.2.2.2.2
  rw [f_X0_atPlaceFrom_L36] at hf
  obtain ⟨x1, ex1⟩ : ∃ y : Int32, y = v4 + (1 : Int32) := ⟨_, rfl⟩
  have hf := nm_of ex1 hf
  refine lv_iinc (v := x1) (lv' := [(4, .int x1), (0, .ref (a this)), (1, .int v1), (2, .int v2), (3, .int v3)]) hx hb dX0_atPlaceFrom_36 hl (k := 4) rfl (by rw [ex1]; rfl) (by decide) rfl (fun ls hl => ?_)
  refine lv_goto (tgt := 5) hx hb dX0_atPlaceFrom_39 (by decide) ?_
  exact hk5 _ _ _ _ _ hf hG (lv_sub hl [1, 2, 3, 4, 0] rfl)
set_option maxHeartbeats 4000000 in
set_option maxRecDepth 100000 in
theorem w_X0_atPlaceFrom_L5 {l : Launch} {dC : Nat → ClassId} {dI : Nat → Nat → Nat} {cy : Nat → ClassId} {a : Nat → Nat} {p : Program} {e : Env} {s : State} {m : MethodId} {args : Array Value} {below : List Frame} {meth : Method} {c : Code} (X : XU dC dI cy a p s m c args meth cX0_atPlaceFrom 5 RX0 (some .int)) {M : Mem} {this : Nat} (hT : K0 this) {v1 : Int32} {v2 : Int32} {o : Int32} : ∀ (n : Nat) (v3 : Int32) (v4 : Int32) (H : Heap) (locs : List Loc) (ls : Array Slot), f_X0_atPlaceFrom_L5 M this v1 v2 n v3 v4 = some o → GU dC dI cy a s.heap M H locs → lv_has ls 5 [(0, .ref (a this)), (1, .int v1), (2, .int v2), (3, .int v3), (4, .int v4)] → W p l e ({ frames := 0, cells := 0, slots := 0, locals := 0 } : Room) s m args below meth c H locs 0 0 (MQ below (QUi dC dI cy a o M) args s 0 0 (AU a)) (F0 m 5 ls []) := by
  have hx := X.1.1
  have hb := X.1.2.1
  have hown := X.1.2.2.2.1
  have hts := X.1.2.2.2.2
  intro n
  induction n with
  | zero => intro v3 v4 H locs ls hf; cases hf
  | succ n ih =>
    intro v3 v4 H locs ls hf hG hl
    rw [f_X0_atPlaceFrom_L5] at hf
    refine lv_iload hx hb dX0_atPlaceFrom_5 (lv_at hl 4 rfl) ?_
    refine lv_aload_n hx hb dX0_atPlaceFrom_7 rfl (lv_at hl 0 rfl) ?_
    refine gf_X0_33 X hG hT dX0_atPlaceFrom_8 ?_
    refine lv_icmp_ge (tgt := 42) hx hb dX0_atPlaceFrom_11 (by decide) (fun c1 => ?_) (fun c1 => ?_)
    · have hf := itep c1 hf
      refine lv_iconst (v := -1) hx hb dX0_atPlaceFrom_42 (by decide) ?_
      obtain rfl := Option.some.inj hf
      exact mw_iret X hG dX0_atPlaceFrom_43
    · have hf := iten c1 hf
      refine lv_aload_n hx hb dX0_atPlaceFrom_14 rfl (lv_at hl 0 rfl) ?_
      refine gf_X0_9 X hG hT dX0_atPlaceFrom_15 ?_
      refine lv_iload hx hb dX0_atPlaceFrom_18 (lv_at hl 4 rfl) ?_
      obtain ⟨hi2, hf⟩ := ck_some hf
      refine mw_iald X hG hT.2.1 hi2 dX0_atPlaceFrom_20 ?_
      refine lv_iload_n hx hb dX0_atPlaceFrom_21 rfl (lv_at hl 1 rfl) ?_
      refine lv_icmp_ne (tgt := 36) hx hb dX0_atPlaceFrom_22 (by decide) (fun c3 => ?_) (fun c3 => ?_)
      · have hf := iten c3 hf
        exact w_X0_atPlaceFrom_L36 X hT ih hf hG (lv_sub hl [0, 1, 2, 3, 4] rfl)
      · have hf := itep c3 hf
        refine lv_iload_n hx hb dX0_atPlaceFrom_25 rfl (lv_at hl 3 rfl) ?_
        refine lv_iload_n hx hb dX0_atPlaceFrom_26 rfl (lv_at hl 2 rfl) ?_
        refine lv_icmp_ne (tgt := 33) hx hb dX0_atPlaceFrom_27 (by decide) (fun c4 => ?_) (fun c4 => ?_)
        · have hf := iten c4 hf
          obtain ⟨x5, ex5⟩ : ∃ y : Int32, y = v3 + (1 : Int32) := ⟨_, rfl⟩
          have hf := nm_of ex5 hf
          refine lv_iinc (v := x5) (lv' := [(3, .int x5), (0, .ref (a this)), (1, .int v1), (2, .int v2), (4, .int v4)]) hx hb dX0_atPlaceFrom_33 hl (k := 3) rfl (by rw [ex5]; rfl) (by decide) rfl (fun ls hl => ?_)
          exact w_X0_atPlaceFrom_L36 X hT ih hf hG (lv_sub hl [1, 2, 3, 0, 4] rfl)
        · have hf := itep c4 hf
          refine lv_iload hx hb dX0_atPlaceFrom_30 (lv_at hl 4 rfl) ?_
          obtain rfl := Option.some.inj hf
          exact mw_iret X hG dX0_atPlaceFrom_32
set_option maxHeartbeats 4000000 in
set_option maxRecDepth 100000 in
theorem c_X0_atPlaceFrom (l : Launch) (dC : Nat → ClassId) (dI : Nat → Nat → Nat) (cy : Nat → ClassId) (a : Nat → Nat) (ha : injU a) (this : Nat) (hT : K0 this) (M : Mem) (v1 : Int32) (v2 : Int32) {o : Int32} (hf : f_X0_atPlaceFrom M this v1 v2 = some o) : Met l yX0_atPlaceFrom (wsU yX0_atPlaceFrom cX0_atPlaceFrom 5 (some .int)) ({ frames := 0, cells := 0, slots := 0, locals := 0 } : Room) (PU dC dI cy a [.ref (a this), .int v1, .int v2] M) (QUi dC dI cy a o M) 0 0 (AU a) := by
  refine mw_met (by decide) ha (Nat.le_of_ble_eq_true rfl) ?_
  intro p e s m below meth c ls X hG hl
  have hl : lv_has ls 5 [(0, .ref (a this)), (1, .int v1), (2, .int v2)] := hl
  have X : XU dC dI cy a p s m c [.ref (a this), .int v1, .int v2].toArray meth cX0_atPlaceFrom 5 RX0 (some .int) := X
  have hx := X.1.1
  have hb := X.1.2.1
  have hown := X.1.2.2.2.1
  have hts := X.1.2.2.2.2
  rw [f_X0_atPlaceFrom] at hf
  refine lv_iconst (v := 0) hx hb dX0_atPlaceFrom_0 (by decide) ?_
  refine lv_istore_n (lv' := [(3, .int (0 : Int32)), (0, .ref (a this)), (1, .int v1), (2, .int v2)]) hx hb dX0_atPlaceFrom_1 rfl hl (by decide) rfl (fun ls hl => ?_)
  refine lv_iconst (v := 0) hx hb dX0_atPlaceFrom_2 (by decide) ?_
  refine lv_istore (lv' := [(4, .int (0 : Int32)), (3, .int (0 : Int32)), (0, .ref (a this)), (1, .int v1), (2, .int v2)]) hx hb dX0_atPlaceFrom_3 hl (by decide) rfl (fun ls hl => ?_)
  exact w_X0_atPlaceFrom_L5 X hT 1000 _ _ _ _ _ hf hG (lv_sub hl [2, 3, 4, 1, 0] rfl)
/-! X0_ofLeastClockTo -/
set_option maxHeartbeats 4000000 in
set_option maxRecDepth 100000 in
theorem w_X0_ofLeastClockTo_L44 {l : Launch} {dC : Nat → ClassId} {dI : Nat → Nat → Nat} {cy : Nat → ClassId} {a : Nat → Nat} {p : Program} {e : Env} {s : State} {m : MethodId} {args : Array Value} {below : List Frame} {meth : Method} {c : Code} (X : XU dC dI cy a p s m c args meth cX0_ofLeastClockTo 4 RX0 (some .int)) {M : Mem} {this : Nat} (hT : K0 this) {v1 : Int32} {v2 : Int32} {v3 : Int32} {o : Int32} {k4 : Int32 → Int32 → Option Int32} (hk4 : ∀ (v2 : Int32) (v3 : Int32) (H : Heap) (locs : List Loc) (ls : Array Slot), k4 v2 v3 = some o → GU dC dI cy a s.heap M H locs → lv_has ls 4 [(0, .ref (a this)), (1, .int v1), (2, .int v2), (3, .int v3)] → W p l e ({ frames := 0, cells := 0, slots := 0, locals := 0 } : Room) s m args below meth c H locs 0 0 (MQ below (QUi dC dI cy a o M) args s 0 0 (AU a)) (F0 m 4 ls [])) {H : Heap} {locs : List Loc} {ls : Array Slot} (hf : f_X0_ofLeastClockTo_L44 k4 M this v1 v2 v3 = some o) (hG : GU dC dI cy a s.heap M H locs) (hl : lv_has ls 4 [(0, .ref (a this)), (1, .int v1), (2, .int v2), (3, .int v3)]) : W p l e ({ frames := 0, cells := 0, slots := 0, locals := 0 } : Room) s m args below meth c H locs 0 0 (MQ below (QUi dC dI cy a o M) args s 0 0 (AU a)) (F0 m 44 ls []) := by
  have hx := X.1.1
  have hb := X.1.2.1
  have hown := X.1.2.2.2.1
  have hts := X.1.2.2.2.2
  rw [f_X0_ofLeastClockTo_L44] at hf
  obtain ⟨x1, ex1⟩ : ∃ y : Int32, y = v3 + (1 : Int32) := ⟨_, rfl⟩
  have hf := nm_of ex1 hf
  refine lv_iinc (v := x1) (lv' := [(3, .int x1), (0, .ref (a this)), (1, .int v1), (2, .int v2)]) hx hb dX0_ofLeastClockTo_44 hl (k := 3) rfl (by rw [ex1]; rfl) (by decide) rfl (fun ls hl => ?_)
  refine lv_goto (tgt := 4) hx hb dX0_ofLeastClockTo_47 (by decide) ?_
  exact hk4 _ _ _ _ _ hf hG (lv_sub hl [1, 2, 3, 0] rfl)
set_option maxHeartbeats 4000000 in
set_option maxRecDepth 100000 in
theorem w_X0_ofLeastClockTo_L42 {l : Launch} {dC : Nat → ClassId} {dI : Nat → Nat → Nat} {cy : Nat → ClassId} {a : Nat → Nat} {p : Program} {e : Env} {s : State} {m : MethodId} {args : Array Value} {below : List Frame} {meth : Method} {c : Code} (X : XU dC dI cy a p s m c args meth cX0_ofLeastClockTo 4 RX0 (some .int)) {M : Mem} {this : Nat} (hT : K0 this) {v1 : Int32} {v3 : Int32} {o : Int32} {k4 : Int32 → Int32 → Option Int32} (hk4 : ∀ (v2 : Int32) (v3 : Int32) (H : Heap) (locs : List Loc) (ls : Array Slot), k4 v2 v3 = some o → GU dC dI cy a s.heap M H locs → lv_has ls 4 [(0, .ref (a this)), (1, .int v1), (2, .int v2), (3, .int v3)] → W p l e ({ frames := 0, cells := 0, slots := 0, locals := 0 } : Room) s m args below meth c H locs 0 0 (MQ below (QUi dC dI cy a o M) args s 0 0 (AU a)) (F0 m 4 ls [])) {H : Heap} {locs : List Loc} {ls : Array Slot} (hf : f_X0_ofLeastClockTo_L42 k4 M this v1 v3 = some o) (hG : GU dC dI cy a s.heap M H locs) (hl : lv_has ls 4 [(0, .ref (a this)), (1, .int v1), (3, .int v3)]) : W p l e ({ frames := 0, cells := 0, slots := 0, locals := 0 } : Room) s m args below meth c H locs 0 0 (MQ below (QUi dC dI cy a o M) args s 0 0 (AU a)) (F0 m 42 ls []) := by
  have hx := X.1.1
  have hb := X.1.2.1
  have hown := X.1.2.2.2.1
  have hts := X.1.2.2.2.2
  rw [f_X0_ofLeastClockTo_L42] at hf
  refine lv_iload_n hx hb dX0_ofLeastClockTo_42 rfl (lv_at hl 2 rfl) ?_
  refine lv_istore_n (lv' := [(2, .int v3), (0, .ref (a this)), (1, .int v1), (3, .int v3)]) hx hb dX0_ofLeastClockTo_43 rfl hl (by decide) rfl (fun ls hl => ?_)
  exact w_X0_ofLeastClockTo_L44 X hT hk4 hf hG (lv_sub hl [1, 2, 0, 3] rfl)
set_option maxHeartbeats 4000000 in
set_option maxRecDepth 100000 in
theorem w_X0_ofLeastClockTo_L4 {l : Launch} {dC : Nat → ClassId} {dI : Nat → Nat → Nat} {cy : Nat → ClassId} {a : Nat → Nat} {p : Program} {e : Env} {s : State} {m : MethodId} {args : Array Value} {below : List Frame} {meth : Method} {c : Code} (X : XU dC dI cy a p s m c args meth cX0_ofLeastClockTo 4 RX0 (some .int)) {M : Mem} {this : Nat} (hT : K0 this) {v1 : Int32} {o : Int32} : ∀ (n : Nat) (v2 : Int32) (v3 : Int32) (H : Heap) (locs : List Loc) (ls : Array Slot), f_X0_ofLeastClockTo_L4 M this v1 n v2 v3 = some o → GU dC dI cy a s.heap M H locs → lv_has ls 4 [(0, .ref (a this)), (1, .int v1), (2, .int v2), (3, .int v3)] → W p l e ({ frames := 0, cells := 0, slots := 0, locals := 0 } : Room) s m args below meth c H locs 0 0 (MQ below (QUi dC dI cy a o M) args s 0 0 (AU a)) (F0 m 4 ls []) := by
  have hx := X.1.1
  have hb := X.1.2.1
  have hown := X.1.2.2.2.1
  have hts := X.1.2.2.2.2
  intro n
  induction n with
  | zero => intro v2 v3 H locs ls hf; cases hf
  | succ n ih =>
    intro v2 v3 H locs ls hf hG hl
    rw [f_X0_ofLeastClockTo_L4] at hf
    refine lv_iload_n hx hb dX0_ofLeastClockTo_4 rfl (lv_at hl 3 rfl) ?_
    refine lv_aload_n hx hb dX0_ofLeastClockTo_5 rfl (lv_at hl 0 rfl) ?_
    refine gf_X0_33 X hG hT dX0_ofLeastClockTo_6 ?_
    refine lv_icmp_ge (tgt := 50) hx hb dX0_ofLeastClockTo_9 (by decide) (fun c1 => ?_) (fun c1 => ?_)
    · have hf := itep c1 hf
      refine lv_iload_n hx hb dX0_ofLeastClockTo_50 rfl (lv_at hl 2 rfl) ?_
      obtain rfl := Option.some.inj hf
      exact mw_iret X hG dX0_ofLeastClockTo_51
    · have hf := iten c1 hf
      refine lv_aload_n hx hb dX0_ofLeastClockTo_12 rfl (lv_at hl 0 rfl) ?_
      refine gf_X0_15 X hG hT dX0_ofLeastClockTo_13 ?_
      refine lv_iload_n hx hb dX0_ofLeastClockTo_16 rfl (lv_at hl 3 rfl) ?_
      obtain ⟨hi2, hf⟩ := ck_some hf
      refine mw_iald X hG hT.2.2.1 hi2 dX0_ofLeastClockTo_17 ?_
      refine lv_iload_n hx hb dX0_ofLeastClockTo_18 rfl (lv_at hl 1 rfl) ?_
      refine lv_icmp_ne (tgt := 44) hx hb dX0_ofLeastClockTo_19 (by decide) (fun c3 => ?_) (fun c3 => ?_)
      · have hf := iten c3 hf
        exact w_X0_ofLeastClockTo_L44 X hT ih hf hG (lv_sub hl [0, 1, 2, 3] rfl)
      · have hf := itep c3 hf
        refine lv_iload_n hx hb dX0_ofLeastClockTo_22 rfl (lv_at hl 2 rfl) ?_
        refine lv_iconst (v := -1) hx hb dX0_ofLeastClockTo_23 (by decide) ?_
        refine lv_icmp_eq (tgt := 42) hx hb dX0_ofLeastClockTo_24 (by decide) (fun c4 => ?_) (fun c4 => ?_)
        · have hf := itep c4 hf
          exact w_X0_ofLeastClockTo_L42 X hT ih hf hG (lv_sub hl [0, 1, 3] rfl)
        · have hf := iten c4 hf
          refine lv_aload_n hx hb dX0_ofLeastClockTo_27 rfl (lv_at hl 0 rfl) ?_
          refine gf_X0_24 X hG hT dX0_ofLeastClockTo_28 ?_
          refine lv_iload_n hx hb dX0_ofLeastClockTo_31 rfl (lv_at hl 3 rfl) ?_
          obtain ⟨hi5, hf⟩ := ck_some hf
          refine mw_iald X hG hT.2.2.2.2.2.1 hi5 dX0_ofLeastClockTo_32 ?_
          refine lv_aload_n hx hb dX0_ofLeastClockTo_33 rfl (lv_at hl 0 rfl) ?_
          refine gf_X0_24 X hG hT dX0_ofLeastClockTo_34 ?_
          refine lv_iload_n hx hb dX0_ofLeastClockTo_37 rfl (lv_at hl 2 rfl) ?_
          obtain ⟨hi6, hf⟩ := ck_some hf
          refine mw_iald X hG hT.2.2.2.2.2.1 hi6 dX0_ofLeastClockTo_38 ?_
          refine lv_icmp_ge (tgt := 44) hx hb dX0_ofLeastClockTo_39 (by decide) (fun c7 => ?_) (fun c7 => ?_)
          · have hf := itep c7 hf
            exact w_X0_ofLeastClockTo_L44 X hT ih hf hG (lv_sub hl [0, 1, 2, 3] rfl)
          · have hf := iten c7 hf
            exact w_X0_ofLeastClockTo_L42 X hT ih hf hG (lv_sub hl [0, 1, 3] rfl)
set_option maxHeartbeats 4000000 in
set_option maxRecDepth 100000 in
theorem c_X0_ofLeastClockTo (l : Launch) (dC : Nat → ClassId) (dI : Nat → Nat → Nat) (cy : Nat → ClassId) (a : Nat → Nat) (ha : injU a) (this : Nat) (hT : K0 this) (M : Mem) (v1 : Int32) {o : Int32} (hf : f_X0_ofLeastClockTo M this v1 = some o) : Met l yX0_ofLeastClockTo (wsU yX0_ofLeastClockTo cX0_ofLeastClockTo 4 (some .int)) ({ frames := 0, cells := 0, slots := 0, locals := 0 } : Room) (PU dC dI cy a [.ref (a this), .int v1] M) (QUi dC dI cy a o M) 0 0 (AU a) := by
  refine mw_met (by decide) ha (Nat.le_of_ble_eq_true rfl) ?_
  intro p e s m below meth c ls X hG hl
  have hl : lv_has ls 4 [(0, .ref (a this)), (1, .int v1)] := hl
  have X : XU dC dI cy a p s m c [.ref (a this), .int v1].toArray meth cX0_ofLeastClockTo 4 RX0 (some .int) := X
  have hx := X.1.1
  have hb := X.1.2.1
  have hown := X.1.2.2.2.1
  have hts := X.1.2.2.2.2
  rw [f_X0_ofLeastClockTo] at hf
  refine lv_iconst (v := -1) hx hb dX0_ofLeastClockTo_0 (by decide) ?_
  refine lv_istore_n (lv' := [(2, .int (-1 : Int32)), (0, .ref (a this)), (1, .int v1)]) hx hb dX0_ofLeastClockTo_1 rfl hl (by decide) rfl (fun ls hl => ?_)
  refine lv_iconst (v := 0) hx hb dX0_ofLeastClockTo_2 (by decide) ?_
  refine lv_istore_n (lv' := [(3, .int (0 : Int32)), (2, .int (-1 : Int32)), (0, .ref (a this)), (1, .int v1)]) hx hb dX0_ofLeastClockTo_3 rfl hl (by decide) rfl (fun ls hl => ?_)
  exact w_X0_ofLeastClockTo_L4 X hT 1000 _ _ _ _ _ hf hG (lv_sub hl [2, 3, 1, 0] rfl)
/-! X0_promiseMoreThan -/
set_option maxHeartbeats 4000000 in
set_option maxRecDepth 100000 in
theorem w_X0_promiseMoreThan_L39 {l : Launch} {dC : Nat → ClassId} {dI : Nat → Nat → Nat} {cy : Nat → ClassId} {a : Nat → Nat} {p : Program} {e : Env} {s : State} {m : MethodId} {args : Array Value} {below : List Frame} {meth : Method} {c : Code} (X : XU dC dI cy a p s m c args meth cX0_promiseMoreThan 4 RX0 (some .boolean)) {M : Mem} {this : Nat} (hT : K0 this) {v1 : Int32} {v2 : Int32} {v3 : Int32} {o : Int32} {k2 : Int32 → Option Int32} (hk2 : ∀ (v3 : Int32) (H : Heap) (locs : List Loc) (ls : Array Slot), k2 v3 = some o → GU dC dI cy a s.heap M H locs → lv_has ls 4 [(0, .ref (a this)), (1, .int v1), (2, .int v2), (3, .int v3)] → W p l e ({ frames := 0, cells := 0, slots := 0, locals := 0 } : Room) s m args below meth c H locs 0 0 (MQ below (QUi dC dI cy a o M) args s 0 0 (AU a)) (F0 m 2 ls [])) {H : Heap} {locs : List Loc} {ls : Array Slot} (hf : f_X0_promiseMoreThan_L39 k2 M this v1 v2 v3 = some o) (hG : GU dC dI cy a s.heap M H locs) (hl : lv_has ls 4 [(0, .ref (a this)), (1, .int v1), (2, .int v2), (3, .int v3)]) : W p l e ({ frames := 0, cells := 0, slots := 0, locals := 0 } : Room) s m args below meth c H locs 0 0 (MQ below (QUi dC dI cy a o M) args s 0 0 (AU a)) (F0 m 39 ls []) := by
  have hx := X.1.1
  have hb := X.1.2.1
  have hown := X.1.2.2.2.1
  have hts := X.1.2.2.2.2
  rw [f_X0_promiseMoreThan_L39] at hf
  obtain ⟨x1, ex1⟩ : ∃ y : Int32, y = v3 + (1 : Int32) := ⟨_, rfl⟩
  have hf := nm_of ex1 hf
  refine lv_iinc (v := x1) (lv' := [(3, .int x1), (0, .ref (a this)), (1, .int v1), (2, .int v2)]) hx hb dX0_promiseMoreThan_39 hl (k := 3) rfl (by rw [ex1]; rfl) (by decide) rfl (fun ls hl => ?_)
  refine lv_goto (tgt := 2) hx hb dX0_promiseMoreThan_42 (by decide) ?_
  exact hk2 _ _ _ _ hf hG (lv_sub hl [1, 2, 3, 0] rfl)
set_option maxHeartbeats 4000000 in
set_option maxRecDepth 100000 in
theorem w_X0_promiseMoreThan_L2 {l : Launch} {dC : Nat → ClassId} {dI : Nat → Nat → Nat} {cy : Nat → ClassId} {a : Nat → Nat} {p : Program} {e : Env} {s : State} {m : MethodId} {args : Array Value} {below : List Frame} {meth : Method} {c : Code} (X : XU dC dI cy a p s m c args meth cX0_promiseMoreThan 4 RX0 (some .boolean)) {M : Mem} {this : Nat} (hT : K0 this) {v1 : Int32} {v2 : Int32} {o : Int32} : ∀ (n : Nat) (v3 : Int32) (H : Heap) (locs : List Loc) (ls : Array Slot), f_X0_promiseMoreThan_L2 M this v1 v2 n v3 = some o → GU dC dI cy a s.heap M H locs → lv_has ls 4 [(0, .ref (a this)), (1, .int v1), (2, .int v2), (3, .int v3)] → W p l e ({ frames := 0, cells := 0, slots := 0, locals := 0 } : Room) s m args below meth c H locs 0 0 (MQ below (QUi dC dI cy a o M) args s 0 0 (AU a)) (F0 m 2 ls []) := by
  have hx := X.1.1
  have hb := X.1.2.1
  have hown := X.1.2.2.2.1
  have hts := X.1.2.2.2.2
  intro n
  induction n with
  | zero => intro v3 H locs ls hf; cases hf
  | succ n ih =>
    intro v3 H locs ls hf hG hl
    rw [f_X0_promiseMoreThan_L2] at hf
    refine lv_iload_n hx hb dX0_promiseMoreThan_2 rfl (lv_at hl 3 rfl) ?_
    refine lv_aload_n hx hb dX0_promiseMoreThan_3 rfl (lv_at hl 0 rfl) ?_
    refine gf_X0_33 X hG hT dX0_promiseMoreThan_4 ?_
    refine lv_icmp_ge (tgt := 45) hx hb dX0_promiseMoreThan_7 (by decide) (fun c1 => ?_) (fun c1 => ?_)
    · have hf := itep c1 hf
      refine lv_iconst (v := 0) hx hb dX0_promiseMoreThan_45 (by decide) ?_
      obtain rfl := Option.some.inj hf
      exact mw_zret X hG (by decide) dX0_promiseMoreThan_46
    · have hf := iten c1 hf
      refine lv_aload_n hx hb dX0_promiseMoreThan_10 rfl (lv_at hl 0 rfl) ?_
      refine gf_X0_9 X hG hT dX0_promiseMoreThan_11 ?_
      refine lv_iload_n hx hb dX0_promiseMoreThan_14 rfl (lv_at hl 3 rfl) ?_
      obtain ⟨hi2, hf⟩ := ck_some hf
      refine mw_iald X hG hT.2.1 hi2 dX0_promiseMoreThan_15 ?_
      refine lv_iload_n hx hb dX0_promiseMoreThan_16 rfl (lv_at hl 1 rfl) ?_
      refine lv_icmp_ne (tgt := 39) hx hb dX0_promiseMoreThan_17 (by decide) (fun c3 => ?_) (fun c3 => ?_)
      · have hf := iten c3 hf
        exact w_X0_promiseMoreThan_L39 X hT ih hf hG (lv_sub hl [0, 1, 2, 3] rfl)
      · have hf := itep c3 hf
        refine lv_aload_n hx hb dX0_promiseMoreThan_20 rfl (lv_at hl 0 rfl) ?_
        refine gf_X0_24 X hG hT dX0_promiseMoreThan_21 ?_
        refine lv_iload_n hx hb dX0_promiseMoreThan_24 rfl (lv_at hl 3 rfl) ?_
        obtain ⟨hi4, hf⟩ := ck_some hf
        refine mw_iald X hG hT.2.2.2.2.2.1 hi4 dX0_promiseMoreThan_25 ?_
        refine lv_iload_n hx hb dX0_promiseMoreThan_26 rfl (lv_at hl 2 rfl) ?_
        refine lv_aload_n hx hb dX0_promiseMoreThan_27 rfl (lv_at hl 0 rfl) ?_
        refine gf_X0_18 X hG hT dX0_promiseMoreThan_28 ?_
        refine lv_iload_n hx hb dX0_promiseMoreThan_31 rfl (lv_at hl 3 rfl) ?_
        obtain ⟨hi5, hf⟩ := ck_some hf
        refine mw_iald X hG hT.2.2.2.1 hi5 dX0_promiseMoreThan_32 ?_
        refine lv_iadd hx hb dX0_promiseMoreThan_33 ?_
        refine lv_icmp_le (tgt := 39) hx hb dX0_promiseMoreThan_34 (by decide) (fun c6 => ?_) (fun c6 => ?_)
        · have hf := itep c6 hf
          exact w_X0_promiseMoreThan_L39 X hT ih hf hG (lv_sub hl [0, 1, 2, 3] rfl)
        · have hf := iten c6 hf
          refine lv_iconst (v := 1) hx hb dX0_promiseMoreThan_37 (by decide) ?_
          obtain rfl := Option.some.inj hf
          exact mw_zret X hG (by decide) dX0_promiseMoreThan_38
set_option maxHeartbeats 4000000 in
set_option maxRecDepth 100000 in
theorem c_X0_promiseMoreThan (l : Launch) (dC : Nat → ClassId) (dI : Nat → Nat → Nat) (cy : Nat → ClassId) (a : Nat → Nat) (ha : injU a) (this : Nat) (hT : K0 this) (M : Mem) (v1 : Int32) (v2 : Int32) {o : Int32} (hf : f_X0_promiseMoreThan M this v1 v2 = some o) : Met l yX0_promiseMoreThan (wsU yX0_promiseMoreThan cX0_promiseMoreThan 4 (some .boolean)) ({ frames := 0, cells := 0, slots := 0, locals := 0 } : Room) (PU dC dI cy a [.ref (a this), .int v1, .int v2] M) (QUi dC dI cy a o M) 0 0 (AU a) := by
  refine mw_met (by decide) ha (Nat.le_of_ble_eq_true rfl) ?_
  intro p e s m below meth c ls X hG hl
  have hl : lv_has ls 4 [(0, .ref (a this)), (1, .int v1), (2, .int v2)] := hl
  have X : XU dC dI cy a p s m c [.ref (a this), .int v1, .int v2].toArray meth cX0_promiseMoreThan 4 RX0 (some .boolean) := X
  have hx := X.1.1
  have hb := X.1.2.1
  have hown := X.1.2.2.2.1
  have hts := X.1.2.2.2.2
  rw [f_X0_promiseMoreThan] at hf
  refine lv_iconst (v := 0) hx hb dX0_promiseMoreThan_0 (by decide) ?_
  refine lv_istore_n (lv' := [(3, .int (0 : Int32)), (0, .ref (a this)), (1, .int v1), (2, .int v2)]) hx hb dX0_promiseMoreThan_1 rfl hl (by decide) rfl (fun ls hl => ?_)
  exact w_X0_promiseMoreThan_L2 X hT 1000 _ _ _ _ hf hG (lv_sub hl [1, 2, 3, 0] rfl)
/-! X0_raiseClocks -/
set_option maxHeartbeats 4000000 in
set_option maxRecDepth 100000 in
theorem w_X0_raiseClocks_L2 {l : Launch} {dC : Nat → ClassId} {dI : Nat → Nat → Nat} {cy : Nat → ClassId} {a : Nat → Nat} {p : Program} {e : Env} {s : State} {m : MethodId} {args : Array Value} {below : List Frame} {meth : Method} {c : Code} (X : XU dC dI cy a p s m c args meth cX0_raiseClocks 3 RX0 none) {this : Nat} (hT : K0 this) {v1 : Int32} {o : Mem} : ∀ (n : Nat) (M : Mem) (v2 : Int32) (H : Heap) (locs : List Loc) (ls : Array Slot), f_X0_raiseClocks_L2 this v1 n M v2 = some o → GU dC dI cy a s.heap M H locs → lv_has ls 3 [(0, .ref (a this)), (1, .int v1), (2, .int v2)] → W p l e ({ frames := 1, cells := 0, slots := 0, locals := 40 } : Room) s m args below meth c H locs 0 0 (MQ below (QUv dC dI cy a o) args s 0 0 (AU a)) (F0 m 2 ls []) := by
  have hx := X.1.1
  have hb := X.1.2.1
  have hown := X.1.2.2.2.1
  have hts := X.1.2.2.2.2
  intro n
  induction n with
  | zero => intro M v2 H locs ls hf; cases hf
  | succ n ih =>
    intro M v2 H locs ls hf hG hl
    rw [f_X0_raiseClocks_L2] at hf
    refine lv_iload_n hx hb dX0_raiseClocks_2 rfl (lv_at hl 2 rfl) ?_
    refine lv_aload_n hx hb dX0_raiseClocks_3 rfl (lv_at hl 0 rfl) ?_
    refine gf_X0_33 X hG hT dX0_raiseClocks_4 ?_
    refine lv_icmp_ge (tgt := 32) hx hb dX0_raiseClocks_7 (by decide) (fun c1 => ?_) (fun c1 => ?_)
    · have hf := itep c1 hf
      obtain rfl := Option.some.inj hf
      exact mw_vret X hG dX0_raiseClocks_32
    · have hf := iten c1 hf
      refine lv_aload_n hx hb dX0_raiseClocks_10 rfl (lv_at hl 0 rfl) ?_
      refine gf_X0_24 X hG hT dX0_raiseClocks_11 ?_
      refine lv_iload_n hx hb dX0_raiseClocks_14 rfl (lv_at hl 2 rfl) ?_
      refine lv_aload_n hx hb dX0_raiseClocks_15 rfl (lv_at hl 0 rfl) ?_
      refine gf_X0_24 X hG hT dX0_raiseClocks_16 ?_
      refine lv_iload_n hx hb dX0_raiseClocks_19 rfl (lv_at hl 2 rfl) ?_
      obtain ⟨hi2, hf⟩ := ck_some hf
      refine mw_iald X hG hT.2.2.2.2.2.1 hi2 dX0_raiseClocks_20 ?_
      refine lv_iload_n hx hb dX0_raiseClocks_21 rfl (lv_at hl 1 rfl) ?_
      refine va_mmax hx hb (X.1.2.2.1.trans hl.1.symm) hown (hts _ wd_ml_X0_43) (hts _ wd_st_Lib_Math_max_name) (hts _ wd_ini_java_lang_Math) (hts _ wd_co_Lib_Math_max_name) (Nat.le_of_ble_eq_true rfl) (Nat.le_of_ble_eq_true rfl) (Nat.zero_le _) (Nat.zero_le _) dX0_raiseClocks_22 ?_
      obtain ⟨hi3, hf⟩ := ck_some hf
      refine mw_iast X hG hT.2.2.2.2.2.1 hi3 dX0_raiseClocks_25 (fun M4 H locs eM4 hG => ?_)
      have hf := nm_of eM4 hf
      obtain ⟨x5, ex5⟩ : ∃ y : Int32, y = v2 + (1 : Int32) := ⟨_, rfl⟩
      have hf := nm_of ex5 hf
      refine lv_iinc (v := x5) (lv' := [(2, .int x5), (0, .ref (a this)), (1, .int v1)]) hx hb dX0_raiseClocks_26 hl (k := 2) rfl (by rw [ex5]; rfl) (by decide) rfl (fun ls hl => ?_)
      refine lv_goto (tgt := 2) hx hb dX0_raiseClocks_29 (by decide) ?_
      exact ih _ _ _ _ _ hf hG (lv_sub hl [1, 2, 0] rfl)
set_option maxHeartbeats 4000000 in
set_option maxRecDepth 100000 in
theorem c_X0_raiseClocks (l : Launch) (dC : Nat → ClassId) (dI : Nat → Nat → Nat) (cy : Nat → ClassId) (a : Nat → Nat) (ha : injU a) (this : Nat) (hT : K0 this) (M : Mem) (v1 : Int32) {o : Mem} (hf : f_X0_raiseClocks M this v1 = some o) : Met l yX0_raiseClocks (wsU yX0_raiseClocks cX0_raiseClocks 3 none) ({ frames := 1, cells := 0, slots := 0, locals := 40 } : Room) (PU dC dI cy a [.ref (a this), .int v1] M) (QUv dC dI cy a o) 0 0 (AU a) := by
  refine mw_met (by decide) ha (Nat.le_of_ble_eq_true rfl) ?_
  intro p e s m below meth c ls X hG hl
  have hl : lv_has ls 3 [(0, .ref (a this)), (1, .int v1)] := hl
  have X : XU dC dI cy a p s m c [.ref (a this), .int v1].toArray meth cX0_raiseClocks 3 RX0 none := X
  have hx := X.1.1
  have hb := X.1.2.1
  have hown := X.1.2.2.2.1
  have hts := X.1.2.2.2.2
  rw [f_X0_raiseClocks] at hf
  refine lv_iconst (v := 0) hx hb dX0_raiseClocks_0 (by decide) ?_
  refine lv_istore_n (lv' := [(2, .int (0 : Int32)), (0, .ref (a this)), (1, .int v1)]) hx hb dX0_raiseClocks_1 rfl hl (by decide) rfl (fun ls hl => ?_)
  exact w_X0_raiseClocks_L2 X hT 1000 _ _ _ _ _ hf hG (lv_sub hl [1, 2, 0] rfl)
/-! X0_reachedWithoutPromise -/
set_option maxHeartbeats 4000000 in
set_option maxRecDepth 100000 in
theorem w_X0_reachedWithoutPromise_L82 {l : Launch} {dC : Nat → ClassId} {dI : Nat → Nat → Nat} {cy : Nat → ClassId} {a : Nat → Nat} {p : Program} {e : Env} {s : State} {m : MethodId} {args : Array Value} {below : List Frame} {meth : Method} {c : Code} (X : XU dC dI cy a p s m c args meth cX0_reachedWithoutPromise 7 RX0 (some .int)) {M : Mem} {this : Nat} (hT : K0 this) {v1 : Int32} {v2 : Int32} {v3 : Int32} {v4 : Int32} {v5 : Int32} {o : Int32} {k5 : Int32 → Int32 → Option Int32} (hk5 : ∀ (v3 : Int32) (v4 : Int32) (H : Heap) (locs : List Loc) (ls : Array Slot), k5 v3 v4 = some o → GU dC dI cy a s.heap M H locs → lv_has ls 7 [(0, .ref (a this)), (1, .int v1), (2, .int v2), (3, .int v3), (4, .int v4)] → W p l e ({ frames := 0, cells := 0, slots := 0, locals := 0 } : Room) s m args below meth c H locs 0 0 (MQ below (QUi dC dI cy a o M) args s 0 0 (AU a)) (F0 m 5 ls [])) {k14 : Int32 → Int32 → Option Int32} (hk14 : ∀ (v3 : Int32) (v5 : Int32) (H : Heap) (locs : List Loc) (ls : Array Slot), k14 v3 v5 = some o → GU dC dI cy a s.heap M H locs → lv_has ls 7 [(0, .ref (a this)), (1, .int v1), (2, .int v2), (3, .int v3), (4, .int v4), (5, .int v5)] → W p l e ({ frames := 0, cells := 0, slots := 0, locals := 0 } : Room) s m args below meth c H locs 0 0 (MQ below (QUi dC dI cy a o M) args s 0 0 (AU a)) (F0 m 14 ls [])) {H : Heap} {locs : List Loc} {ls : Array Slot} (hf : f_X0_reachedWithoutPromise_L82 k5 k14 M this v1 v2 v3 v4 v5 = some o) (hG : GU dC dI cy a s.heap M H locs) (hl : lv_has ls 7 [(0, .ref (a this)), (1, .int v1), (2, .int v2), (3, .int v3), (4, .int v4), (5, .int v5)]) : W p l e ({ frames := 0, cells := 0, slots := 0, locals := 0 } : Room) s m args below meth c H locs 0 0 (MQ below (QUi dC dI cy a o M) args s 0 0 (AU a)) (F0 m 82 ls []) := by
  have hx := X.1.1
  have hb := X.1.2.1
  have hown := X.1.2.2.2.1
  have hts := X.1.2.2.2.2
  rw [f_X0_reachedWithoutPromise_L82] at hf
  obtain ⟨x1, ex1⟩ : ∃ y : Int32, y = v5 + (1 : Int32) := ⟨_, rfl⟩
  have hf := nm_of ex1 hf
  refine lv_iinc (v := x1) (lv' := [(5, .int x1), (0, .ref (a this)), (1, .int v1), (2, .int v2), (3, .int v3), (4, .int v4)]) hx hb dX0_reachedWithoutPromise_82 hl (k := 5) rfl (by rw [ex1]; rfl) (by decide) rfl (fun ls hl => ?_)
  refine lv_goto (tgt := 14) hx hb dX0_reachedWithoutPromise_85 (by decide) ?_
  exact hk14 _ _ _ _ _ hf hG (lv_sub hl [1, 2, 3, 4, 5, 0] rfl)
set_option maxHeartbeats 4000000 in
set_option maxRecDepth 100000 in
theorem w_X0_reachedWithoutPromise_L53 {l : Launch} {dC : Nat → ClassId} {dI : Nat → Nat → Nat} {cy : Nat → ClassId} {a : Nat → Nat} {p : Program} {e : Env} {s : State} {m : MethodId} {args : Array Value} {below : List Frame} {meth : Method} {c : Code} (X : XU dC dI cy a p s m c args meth cX0_reachedWithoutPromise 7 RX0 (some .int)) {M : Mem} {this : Nat} (hT : K0 this) {v1 : Int32} {v2 : Int32} {v3 : Int32} {v4 : Int32} {v5 : Int32} {s0 : Int32} {o : Int32} {k5 : Int32 → Int32 → Option Int32} (hk5 : ∀ (v3 : Int32) (v4 : Int32) (H : Heap) (locs : List Loc) (ls : Array Slot), k5 v3 v4 = some o → GU dC dI cy a s.heap M H locs → lv_has ls 7 [(0, .ref (a this)), (1, .int v1), (2, .int v2), (3, .int v3), (4, .int v4)] → W p l e ({ frames := 0, cells := 0, slots := 0, locals := 0 } : Room) s m args below meth c H locs 0 0 (MQ below (QUi dC dI cy a o M) args s 0 0 (AU a)) (F0 m 5 ls [])) {k14 : Int32 → Int32 → Option Int32} (hk14 : ∀ (v3 : Int32) (v5 : Int32) (H : Heap) (locs : List Loc) (ls : Array Slot), k14 v3 v5 = some o → GU dC dI cy a s.heap M H locs → lv_has ls 7 [(0, .ref (a this)), (1, .int v1), (2, .int v2), (3, .int v3), (4, .int v4), (5, .int v5)] → W p l e ({ frames := 0, cells := 0, slots := 0, locals := 0 } : Room) s m args below meth c H locs 0 0 (MQ below (QUi dC dI cy a o M) args s 0 0 (AU a)) (F0 m 14 ls [])) {H : Heap} {locs : List Loc} {ls : Array Slot} (hf : f_X0_reachedWithoutPromise_L53 k5 k14 M this v1 v2 v3 v4 v5 s0 = some o) (hG : GU dC dI cy a s.heap M H locs) (hl : lv_has ls 7 [(0, .ref (a this)), (1, .int v1), (2, .int v2), (3, .int v3), (4, .int v4), (5, .int v5)]) : W p l e ({ frames := 0, cells := 0, slots := 0, locals := 0 } : Room) s m args below meth c H locs 0 0 (MQ below (QUi dC dI cy a o M) args s 0 0 (AU a)) (F0 m 53 ls [.int s0]) := by
  have hx := X.1.1
  have hb := X.1.2.1
  have hown := X.1.2.2.2.1
  have hts := X.1.2.2.2.2
  rw [f_X0_reachedWithoutPromise_L53] at hf
  refine lv_istore (lv' := [(6, .int s0), (0, .ref (a this)), (1, .int v1), (2, .int v2), (3, .int v3), (4, .int v4), (5, .int v5)]) hx hb dX0_reachedWithoutPromise_53 hl (by decide) rfl (fun ls hl => ?_)
  refine lv_aload_n hx hb dX0_reachedWithoutPromise_55 rfl (lv_at hl 1 rfl) ?_
  refine gf_X0_18 X hG hT dX0_reachedWithoutPromise_56 ?_
  refine lv_iload hx hb dX0_reachedWithoutPromise_59 (lv_at hl 6 rfl) ?_
  obtain ⟨hi1, hf⟩ := ck_some hf
  refine mw_iald X hG hT.2.2.2.1 hi1 dX0_reachedWithoutPromise_61 ?_
  refine lv_if_ne (tgt := 82) hx hb dX0_reachedWithoutPromise_62 (by decide) (fun c2 => ?_) (fun c2 => ?_)
  · have hf := iten c2 hf
    exact w_X0_reachedWithoutPromise_L82 X hT hk5 hk14 hf hG (lv_sub hl [1, 2, 3, 4, 5, 6] rfl)
  · have hf := itep c2 hf
    refine lv_iload hx hb dX0_reachedWithoutPromise_65 (lv_at hl 0 rfl) ?_
    refine lv_if_eq (tgt := 82) hx hb dX0_reachedWithoutPromise_67 (by decide) (fun c3 => ?_) (fun c3 => ?_)
    · have hf := itep c3 hf
      exact w_X0_reachedWithoutPromise_L82 X hT hk5 hk14 hf hG (lv_sub hl [1, 2, 3, 4, 5, 6] rfl)
    · have hf := iten c3 hf
      refine lv_iload_n hx hb dX0_reachedWithoutPromise_70 rfl (lv_at hl 4 rfl) ?_
      refine lv_iconst (v := 1) hx hb dX0_reachedWithoutPromise_71 (by decide) ?_
      refine lv_aload_n hx hb dX0_reachedWithoutPromise_72 rfl (lv_at hl 1 rfl) ?_
      refine gf_X0_15 X hG hT dX0_reachedWithoutPromise_73 ?_
      refine lv_iload hx hb dX0_reachedWithoutPromise_76 (lv_at hl 6 rfl) ?_
      obtain ⟨hi4, hf⟩ := ck_some hf
      refine mw_iald X hG hT.2.2.1 hi4 dX0_reachedWithoutPromise_78 ?_
      refine lv_ishl hx hb dX0_reachedWithoutPromise_79 ?_
      refine lv_ior hx hb dX0_reachedWithoutPromise_80 ?_
      refine lv_topi (fun x5 ex5 => ?_)
      have hf := nm_of ex5 hf
      refine lv_istore_n (lv' := [(3, .int x5), (6, .int s0), (0, .ref (a this)), (1, .int v1), (2, .int v2), (4, .int v4), (5, .int v5)]) hx hb dX0_reachedWithoutPromise_81 rfl hl (by decide) rfl (fun ls hl => ?_)
      exact w_X0_reachedWithoutPromise_L82 X hT hk5 hk14 hf hG (lv_sub hl [2, 3, 4, 0, 5, 6] rfl)
set_option maxHeartbeats 4000000 in
set_option maxRecDepth 100000 in
theorem w_X0_reachedWithoutPromise_L48 {l : Launch} {dC : Nat → ClassId} {dI : Nat → Nat → Nat} {cy : Nat → ClassId} {a : Nat → Nat} {p : Program} {e : Env} {s : State} {m : MethodId} {args : Array Value} {below : List Frame} {meth : Method} {c : Code} (X : XU dC dI cy a p s m c args meth cX0_reachedWithoutPromise 7 RX0 (some .int)) {M : Mem} {this : Nat} (hT : K0 this) {v1 : Int32} {v2 : Int32} {v3 : Int32} {v4 : Int32} {v5 : Int32} {o : Int32} {k5 : Int32 → Int32 → Option Int32} (hk5 : ∀ (v3 : Int32) (v4 : Int32) (H : Heap) (locs : List Loc) (ls : Array Slot), k5 v3 v4 = some o → GU dC dI cy a s.heap M H locs → lv_has ls 7 [(0, .ref (a this)), (1, .int v1), (2, .int v2), (3, .int v3), (4, .int v4)] → W p l e ({ frames := 0, cells := 0, slots := 0, locals := 0 } : Room) s m args below meth c H locs 0 0 (MQ below (QUi dC dI cy a o M) args s 0 0 (AU a)) (F0 m 5 ls [])) {k14 : Int32 → Int32 → Option Int32} (hk14 : ∀ (v3 : Int32) (v5 : Int32) (H : Heap) (locs : List Loc) (ls : Array Slot), k14 v3 v5 = some o → GU dC dI cy a s.heap M H locs → lv_has ls 7 [(0, .ref (a this)), (1, .int v1), (2, .int v2), (3, .int v3), (4, .int v4), (5, .int v5)] → W p l e ({ frames := 0, cells := 0, slots := 0, locals := 0 } : Room) s m args below meth c H locs 0 0 (MQ below (QUi dC dI cy a o M) args s 0 0 (AU a)) (F0 m 14 ls [])) {H : Heap} {locs : List Loc} {ls : Array Slot} (hf : f_X0_reachedWithoutPromise_L48 k5 k14 M this v1 v2 v3 v4 v5 = some o) (hG : GU dC dI cy a s.heap M H locs) (hl : lv_has ls 7 [(0, .ref (a this)), (1, .int v1), (2, .int v2), (3, .int v3), (4, .int v4), (5, .int v5)]) : W p l e ({ frames := 0, cells := 0, slots := 0, locals := 0 } : Room) s m args below meth c H locs 0 0 (MQ below (QUi dC dI cy a o M) args s 0 0 (AU a)) (F0 m 48 ls []) := by
  have hx := X.1.1
  have hb := X.1.2.1
  have hown := X.1.2.2.2.1
  have hts := X.1.2.2.2.2
  rw [f_X0_reachedWithoutPromise_L48] at hf
  refine lv_iconst (v := 1) hx hb dX0_reachedWithoutPromise_48 (by decide) ?_
  refine lv_goto (tgt := 53) hx hb dX0_reachedWithoutPromise_49 (by decide) ?_
  exact w_X0_reachedWithoutPromise_L53 X hT hk5 hk14 hf hG (lv_sub hl [0, 1, 2, 3, 4, 5] rfl)
set_option maxHeartbeats 4000000 in
set_option maxRecDepth 100000 in
theorem w_X0_reachedWithoutPromise_L88 {l : Launch} {dC : Nat → ClassId} {dI : Nat → Nat → Nat} {cy : Nat → ClassId} {a : Nat → Nat} {p : Program} {e : Env} {s : State} {m : MethodId} {args : Array Value} {below : List Frame} {meth : Method} {c : Code} (X : XU dC dI cy a p s m c args meth cX0_reachedWithoutPromise 7 RX0 (some .int)) {M : Mem} {this : Nat} (hT : K0 this) {v1 : Int32} {v2 : Int32} {v3 : Int32} {v4 : Int32} {o : Int32} {k5 : Int32 → Int32 → Option Int32} (hk5 : ∀ (v3 : Int32) (v4 : Int32) (H : Heap) (locs : List Loc) (ls : Array Slot), k5 v3 v4 = some o → GU dC dI cy a s.heap M H locs → lv_has ls 7 [(0, .ref (a this)), (1, .int v1), (2, .int v2), (3, .int v3), (4, .int v4)] → W p l e ({ frames := 0, cells := 0, slots := 0, locals := 0 } : Room) s m args below meth c H locs 0 0 (MQ below (QUi dC dI cy a o M) args s 0 0 (AU a)) (F0 m 5 ls [])) {H : Heap} {locs : List Loc} {ls : Array Slot} (hf : f_X0_reachedWithoutPromise_L88 k5 M this v1 v2 v3 v4 = some o) (hG : GU dC dI cy a s.heap M H locs) (hl : lv_has ls 7 [(0, .ref (a this)), (1, .int v1), (2, .int v2), (3, .int v3), (4, .int v4)]) : W p l e ({ frames := 0, cells := 0, slots := 0, locals := 0 } : Room) s m args below meth c H locs 0 0 (MQ below (QUi dC dI cy a o M) args s 0 0 (AU a)) (F0 m 88 ls []) := by
  have hx := X.1.1
  have hb := X.1.2.1
  have hown := X.1.2.2.2.1
  have hts := X.1.2.2.2.2
  rw [f_X0_reachedWithoutPromise_L88] at hf
  obtain ⟨x1, ex1⟩ : ∃ y : Int32, y = v4 + (1 : Int32) := ⟨_, rfl⟩
  have hf := nm_of ex1 hf
  refine lv_iinc (v := x1) (lv' := [(4, .int x1), (0, .ref (a this)), (1, .int v1), (2, .int v2), (3, .int v3)]) hx hb dX0_reachedWithoutPromise_88 hl (k := 4) rfl (by rw [ex1]; rfl) (by decide) rfl (fun ls hl => ?_)
  refine lv_goto (tgt := 5) hx hb dX0_reachedWithoutPromise_91 (by decide) ?_
  exact hk5 _ _ _ _ _ hf hG (lv_sub hl [1, 2, 3, 4, 0] rfl)
set_option maxHeartbeats 4000000 in
set_option maxRecDepth 100000 in
theorem w_X0_reachedWithoutPromise_L14 {l : Launch} {dC : Nat → ClassId} {dI : Nat → Nat → Nat} {cy : Nat → ClassId} {a : Nat → Nat} {p : Program} {e : Env} {s : State} {m : MethodId} {args : Array Value} {below : List Frame} {meth : Method} {c : Code} (X : XU dC dI cy a p s m c args meth cX0_reachedWithoutPromise 7 RX0 (some .int)) {M : Mem} {this : Nat} (hT : K0 this) {v1 : Int32} {v2 : Int32} {v4 : Int32} {o : Int32} {k5 : Int32 → Int32 → Option Int32} (hk5 : ∀ (v3 : Int32) (v4 : Int32) (H : Heap) (locs : List Loc) (ls : Array Slot), k5 v3 v4 = some o → GU dC dI cy a s.heap M H locs → lv_has ls 7 [(0, .ref (a this)), (1, .int v1), (2, .int v2), (3, .int v3), (4, .int v4)] → W p l e ({ frames := 0, cells := 0, slots := 0, locals := 0 } : Room) s m args below meth c H locs 0 0 (MQ below (QUi dC dI cy a o M) args s 0 0 (AU a)) (F0 m 5 ls [])) : ∀ (n : Nat) (v3 : Int32) (v5 : Int32) (H : Heap) (locs : List Loc) (ls : Array Slot), f_X0_reachedWithoutPromise_L14 k5 M this v1 v2 v4 n v3 v5 = some o → GU dC dI cy a s.heap M H locs → lv_has ls 7 [(0, .ref (a this)), (1, .int v1), (2, .int v2), (3, .int v3), (4, .int v4), (5, .int v5)] → W p l e ({ frames := 0, cells := 0, slots := 0, locals := 0 } : Room) s m args below meth c H locs 0 0 (MQ below (QUi dC dI cy a o M) args s 0 0 (AU a)) (F0 m 14 ls []) := by
  have hx := X.1.1
  have hb := X.1.2.1
  have hown := X.1.2.2.2.1
  have hts := X.1.2.2.2.2
  intro n
  induction n with
  | zero => intro v3 v5 H locs ls hf; cases hf
  | succ n ih =>
    intro v3 v5 H locs ls hf hG hl
    rw [f_X0_reachedWithoutPromise_L14] at hf
    refine lv_iload hx hb dX0_reachedWithoutPromise_14 (lv_at hl 5 rfl) ?_
    refine lv_aload_n hx hb dX0_reachedWithoutPromise_16 rfl (lv_at hl 0 rfl) ?_
    refine gf_X0_33 X hG hT dX0_reachedWithoutPromise_17 ?_
    refine lv_icmp_ge (tgt := 88) hx hb dX0_reachedWithoutPromise_20 (by decide) (fun c1 => ?_) (fun c1 => ?_)
    · have hf := itep c1 hf
      exact w_X0_reachedWithoutPromise_L88 X hT hk5 hf hG (lv_sub hl [0, 1, 2, 3, 4] rfl)
    · have hf := iten c1 hf
      refine lv_aload_n hx hb dX0_reachedWithoutPromise_23 rfl (lv_at hl 0 rfl) ?_
      refine gf_X0_9 X hG hT dX0_reachedWithoutPromise_24 ?_
      refine lv_iload hx hb dX0_reachedWithoutPromise_27 (lv_at hl 5 rfl) ?_
      obtain ⟨hi2, hf⟩ := ck_some hf
      refine mw_iald X hG hT.2.1 hi2 dX0_reachedWithoutPromise_29 ?_
      refine lv_iload_n hx hb dX0_reachedWithoutPromise_30 rfl (lv_at hl 1 rfl) ?_
      refine lv_icmp_eq (tgt := 48) hx hb dX0_reachedWithoutPromise_31 (by decide) (fun c3 => ?_) (fun c3 => ?_)
      · have hf := itep c3 hf
        exact w_X0_reachedWithoutPromise_L48 X hT hk5 ih hf hG (lv_sub hl [0, 1, 2, 3, 4, 5] rfl)
      · have hf := iten c3 hf
        refine lv_iload_n hx hb dX0_reachedWithoutPromise_34 rfl (lv_at hl 3 rfl) ?_
        refine lv_iconst (v := 1) hx hb dX0_reachedWithoutPromise_35 (by decide) ?_
        refine lv_aload_n hx hb dX0_reachedWithoutPromise_36 rfl (lv_at hl 0 rfl) ?_
        refine gf_X0_9 X hG hT dX0_reachedWithoutPromise_37 ?_
        refine lv_iload hx hb dX0_reachedWithoutPromise_40 (lv_at hl 5 rfl) ?_
        obtain ⟨hi4, hf⟩ := ck_some hf
        refine mw_iald X hG hT.2.1 hi4 dX0_reachedWithoutPromise_42 ?_
        refine lv_ishl hx hb dX0_reachedWithoutPromise_43 ?_
        refine lv_iand hx hb dX0_reachedWithoutPromise_44 ?_
        refine lv_if_eq (tgt := 52) hx hb dX0_reachedWithoutPromise_45 (by decide) (fun c5 => ?_) (fun c5 => ?_)
        · have hf := itep c5 hf
          refine lv_iconst (v := 0) hx hb dX0_reachedWithoutPromise_52 (by decide) ?_
          exact w_X0_reachedWithoutPromise_L53 X hT hk5 ih hf hG (lv_sub hl [0, 1, 2, 3, 4, 5] rfl)
        · have hf := iten c5 hf
          exact w_X0_reachedWithoutPromise_L48 X hT hk5 ih hf hG (lv_sub hl [0, 1, 2, 3, 4, 5] rfl)
set_option maxHeartbeats 4000000 in
set_option maxRecDepth 100000 in
theorem w_X0_reachedWithoutPromise_L5 {l : Launch} {dC : Nat → ClassId} {dI : Nat → Nat → Nat} {cy : Nat → ClassId} {a : Nat → Nat} {p : Program} {e : Env} {s : State} {m : MethodId} {args : Array Value} {below : List Frame} {meth : Method} {c : Code} (X : XU dC dI cy a p s m c args meth cX0_reachedWithoutPromise 7 RX0 (some .int)) {M : Mem} {this : Nat} (hT : K0 this) {v1 : Int32} {v2 : Int32} {o : Int32} : ∀ (n : Nat) (v3 : Int32) (v4 : Int32) (H : Heap) (locs : List Loc) (ls : Array Slot), f_X0_reachedWithoutPromise_L5 M this v1 v2 n v3 v4 = some o → GU dC dI cy a s.heap M H locs → lv_has ls 7 [(0, .ref (a this)), (1, .int v1), (2, .int v2), (3, .int v3), (4, .int v4)] → W p l e ({ frames := 0, cells := 0, slots := 0, locals := 0 } : Room) s m args below meth c H locs 0 0 (MQ below (QUi dC dI cy a o M) args s 0 0 (AU a)) (F0 m 5 ls []) := by
  have hx := X.1.1
  have hb := X.1.2.1
  have hown := X.1.2.2.2.1
  have hts := X.1.2.2.2.2
  intro n
  induction n with
  | zero => intro v3 v4 H locs ls hf; cases hf
  | succ n ih =>
    intro v3 v4 H locs ls hf hG hl
    rw [f_X0_reachedWithoutPromise_L5] at hf
    refine lv_iload hx hb dX0_reachedWithoutPromise_5 (lv_at hl 4 rfl) ?_
    refine lv_iload_n hx hb dX0_reachedWithoutPromise_7 rfl (lv_at hl 2 rfl) ?_
    refine lv_icmp_ge (tgt := 94) hx hb dX0_reachedWithoutPromise_8 (by decide) (fun c1 => ?_) (fun c1 => ?_)
    · have hf := itep c1 hf
      refine lv_iload_n hx hb dX0_reachedWithoutPromise_94 rfl (lv_at hl 3 rfl) ?_
      obtain rfl := Option.some.inj hf
      exact mw_iret X hG dX0_reachedWithoutPromise_95
    · have hf := iten c1 hf
      refine lv_iconst (v := 0) hx hb dX0_reachedWithoutPromise_11 (by decide) ?_
      refine lv_istore (lv' := [(5, .int (0 : Int32)), (0, .ref (a this)), (1, .int v1), (2, .int v2), (3, .int v3), (4, .int v4)]) hx hb dX0_reachedWithoutPromise_12 hl (by decide) rfl (fun ls hl => ?_)
      exact w_X0_reachedWithoutPromise_L14 X hT ih 1000 _ _ _ _ _ hf hG (lv_sub hl [1, 2, 3, 4, 5, 0] rfl)
set_option maxHeartbeats 4000000 in
set_option maxRecDepth 100000 in
theorem c_X0_reachedWithoutPromise (l : Launch) (dC : Nat → ClassId) (dI : Nat → Nat → Nat) (cy : Nat → ClassId) (a : Nat → Nat) (ha : injU a) (this : Nat) (hT : K0 this) (M : Mem) (v1 : Int32) (v2 : Int32) {o : Int32} (hf : f_X0_reachedWithoutPromise M this v1 v2 = some o) : Met l yX0_reachedWithoutPromise (wsU yX0_reachedWithoutPromise cX0_reachedWithoutPromise 7 (some .int)) ({ frames := 0, cells := 0, slots := 0, locals := 0 } : Room) (PU dC dI cy a [.ref (a this), .int v1, .int v2] M) (QUi dC dI cy a o M) 0 0 (AU a) := by
  refine mw_met (by decide) ha (Nat.le_of_ble_eq_true rfl) ?_
  intro p e s m below meth c ls X hG hl
  have hl : lv_has ls 7 [(0, .ref (a this)), (1, .int v1), (2, .int v2)] := hl
  have X : XU dC dI cy a p s m c [.ref (a this), .int v1, .int v2].toArray meth cX0_reachedWithoutPromise 7 RX0 (some .int) := X
  have hx := X.1.1
  have hb := X.1.2.1
  have hown := X.1.2.2.2.1
  have hts := X.1.2.2.2.2
  rw [f_X0_reachedWithoutPromise] at hf
  refine lv_iconst (v := 0) hx hb dX0_reachedWithoutPromise_0 (by decide) ?_
  refine lv_istore_n (lv' := [(3, .int (0 : Int32)), (0, .ref (a this)), (1, .int v1), (2, .int v2)]) hx hb dX0_reachedWithoutPromise_1 rfl hl (by decide) rfl (fun ls hl => ?_)
  refine lv_iconst (v := 0) hx hb dX0_reachedWithoutPromise_2 (by decide) ?_
  refine lv_istore (lv' := [(4, .int (0 : Int32)), (3, .int (0 : Int32)), (0, .ref (a this)), (1, .int v1), (2, .int v2)]) hx hb dX0_reachedWithoutPromise_3 hl (by decide) rfl (fun ls hl => ?_)
  exact w_X0_reachedWithoutPromise_L5 X hT 1000 _ _ _ _ _ hf hG (lv_sub hl [2, 3, 4, 1, 0] rfl)
/-! X0_hasRingWithoutPromise -/
set_option maxHeartbeats 4000000 in
set_option maxRecDepth 100000 in
theorem w_X0_hasRingWithoutPromise_L2 {l : Launch} {dC : Nat → ClassId} {dI : Nat → Nat → Nat} {cy : Nat → ClassId} {a : Nat → Nat} {p : Program} {e : Env} {s : State} {m : MethodId} {args : Array Value} {below : List Frame} {meth : Method} {c : Code} (X : XU dC dI cy a p s m c args meth cX0_hasRingWithoutPromise 3 RX0 (some .boolean)) {M : Mem} {this : Nat} (hT : K0 this) {v1 : Int32} {o : Int32} : ∀ (n : Nat) (v2 : Int32) (H : Heap) (locs : List Loc) (ls : Array Slot), f_X0_hasRingWithoutPromise_L2 M this v1 n v2 = some o → GU dC dI cy a s.heap M H locs → lv_has ls 3 [(0, .ref (a this)), (1, .int v1), (2, .int v2)] → W p l e ({ frames := 1, cells := 0, slots := 0, locals := 26 } : Room) s m args below meth c H locs 0 0 (MQ below (QUi dC dI cy a o M) args s 0 0 (AU a)) (F0 m 2 ls []) := by
  have hx := X.1.1
  have hb := X.1.2.1
  have hown := X.1.2.2.2.1
  have hts := X.1.2.2.2.2
  intro n
  induction n with
  | zero => intro v2 H locs ls hf; cases hf
  | succ n ih =>
    intro v2 H locs ls hf hG hl
    rw [f_X0_hasRingWithoutPromise_L2] at hf
    refine lv_iload_n hx hb dX0_hasRingWithoutPromise_2 rfl (lv_at hl 2 rfl) ?_
    refine lv_iload_n hx hb dX0_hasRingWithoutPromise_3 rfl (lv_at hl 1 rfl) ?_
    refine lv_icmp_ge (tgt := 28) hx hb dX0_hasRingWithoutPromise_4 (by decide) (fun c1 => ?_) (fun c1 => ?_)
    · have hf := itep c1 hf
      refine lv_iconst (v := 0) hx hb dX0_hasRingWithoutPromise_28 (by decide) ?_
      obtain rfl := Option.some.inj hf
      exact mw_zret X hG (by decide) dX0_hasRingWithoutPromise_29
    · have hf := iten c1 hf
      refine lv_aload_n hx hb dX0_hasRingWithoutPromise_7 rfl (lv_at hl 0 rfl) ?_
      refine lv_iload_n hx hb dX0_hasRingWithoutPromise_8 rfl (lv_at hl 2 rfl) ?_
      refine lv_iload_n hx hb dX0_hasRingWithoutPromise_9 rfl (lv_at hl 1 rfl) ?_
      obtain ⟨x2, hr3, hf⟩ := bd_some hf
      refine mw_callVi (rest := []) X hG hT.1 rfl (c_X0_reachedWithoutPromise l dC dI cy a X.2.2.1 this hT M v2 v1 hr3) (mw_cwV X 2 g_X0_49 hd_X0_reachedWithoutPromise ⟨rfl, rfl⟩ ⟨Nat.le_of_ble_eq_true rfl, Nat.le_of_ble_eq_true rfl⟩) rfl hl.1 rfl (Nat.le_of_ble_eq_true rfl) dX0_hasRingWithoutPromise_10 (fun H locs hG => ?_)
      refine lv_iconst (v := 1) hx hb dX0_hasRingWithoutPromise_13 (by decide) ?_
      refine lv_iload_n hx hb dX0_hasRingWithoutPromise_14 rfl (lv_at hl 2 rfl) ?_
      refine lv_ishl hx hb dX0_hasRingWithoutPromise_15 ?_
      refine lv_iand hx hb dX0_hasRingWithoutPromise_16 ?_
      refine lv_if_eq (tgt := 22) hx hb dX0_hasRingWithoutPromise_17 (by decide) (fun c4 => ?_) (fun c4 => ?_)
      · have hf := itep c4 hf
        obtain ⟨x5, ex5⟩ : ∃ y : Int32, y = v2 + (1 : Int32) := ⟨_, rfl⟩
        have hf := nm_of ex5 hf
        refine lv_iinc (v := x5) (lv' := [(2, .int x5), (0, .ref (a this)), (1, .int v1)]) hx hb dX0_hasRingWithoutPromise_22 hl (k := 2) rfl (by rw [ex5]; rfl) (by decide) rfl (fun ls hl => ?_)
        refine lv_goto (tgt := 2) hx hb dX0_hasRingWithoutPromise_25 (by decide) ?_
        exact ih _ _ _ _ hf hG (lv_sub hl [1, 2, 0] rfl)
      · have hf := iten c4 hf
        refine lv_iconst (v := 1) hx hb dX0_hasRingWithoutPromise_20 (by decide) ?_
        obtain rfl := Option.some.inj hf
        exact mw_zret X hG (by decide) dX0_hasRingWithoutPromise_21
set_option maxHeartbeats 4000000 in
set_option maxRecDepth 100000 in
theorem c_X0_hasRingWithoutPromise (l : Launch) (dC : Nat → ClassId) (dI : Nat → Nat → Nat) (cy : Nat → ClassId) (a : Nat → Nat) (ha : injU a) (this : Nat) (hT : K0 this) (M : Mem) (v1 : Int32) {o : Int32} (hf : f_X0_hasRingWithoutPromise M this v1 = some o) : Met l yX0_hasRingWithoutPromise (wsU yX0_hasRingWithoutPromise cX0_hasRingWithoutPromise 3 (some .boolean)) ({ frames := 1, cells := 0, slots := 0, locals := 26 } : Room) (PU dC dI cy a [.ref (a this), .int v1] M) (QUi dC dI cy a o M) 0 0 (AU a) := by
  refine mw_met (by decide) ha (Nat.le_of_ble_eq_true rfl) ?_
  intro p e s m below meth c ls X hG hl
  have hl : lv_has ls 3 [(0, .ref (a this)), (1, .int v1)] := hl
  have X : XU dC dI cy a p s m c [.ref (a this), .int v1].toArray meth cX0_hasRingWithoutPromise 3 RX0 (some .boolean) := X
  have hx := X.1.1
  have hb := X.1.2.1
  have hown := X.1.2.2.2.1
  have hts := X.1.2.2.2.2
  rw [f_X0_hasRingWithoutPromise] at hf
  refine lv_iconst (v := 0) hx hb dX0_hasRingWithoutPromise_0 (by decide) ?_
  refine lv_istore_n (lv' := [(2, .int (0 : Int32)), (0, .ref (a this)), (1, .int v1)]) hx hb dX0_hasRingWithoutPromise_1 rfl hl (by decide) rfl (fun ls hl => ?_)
  exact w_X0_hasRingWithoutPromise_L2 X hT 1000 _ _ _ _ hf hG (lv_sub hl [1, 2, 0] rfl)
/-! X1_clear -/
set_option maxHeartbeats 4000000 in
set_option maxRecDepth 100000 in
theorem c_X1_clear (l : Launch) (dC : Nat → ClassId) (dI : Nat → Nat → Nat) (cy : Nat → ClassId) (a : Nat → Nat) (ha : injU a) (this : Nat) (hT : K1 this) (M : Mem) {o : Mem} (hf : f_X1_clear M this = some o) : Met l yX1_clear (wsU yX1_clear cX1_clear 1 none) ({ frames := 0, cells := 0, slots := 0, locals := 0 } : Room) (PU dC dI cy a [.ref (a this)] M) (QUv dC dI cy a o) 0 0 (AU a) := by
  refine mw_met (by decide) ha (Nat.le_of_ble_eq_true rfl) ?_
  intro p e s m below meth c ls X hG hl
  have hl : lv_has ls 1 [(0, .ref (a this))] := hl
  have X : XU dC dI cy a p s m c [.ref (a this)].toArray meth cX1_clear 1 RX1 none := X
  have hx := X.1.1
  have hb := X.1.2.1
  have hown := X.1.2.2.2.1
  have hts := X.1.2.2.2.2
  rw [f_X1_clear] at hf
  refine lv_aload_n hx hb dX1_clear_0 rfl (lv_at hl 0 rfl) ?_
  refine lv_iconst (v := 0) hx hb dX1_clear_1 (by decide) ?_
  refine pf_X1_24 X hG hT dX1_clear_2 (fun M1 H locs eM1 hG => ?_)
  have hf := nm_of eM1 hf
  obtain rfl := Option.some.inj hf
  exact mw_vret X hG dX1_clear_5
/-! X1_add -/
set_option maxHeartbeats 4000000 in
set_option maxRecDepth 100000 in
theorem c_X1_add (l : Launch) (dC : Nat → ClassId) (dI : Nat → Nat → Nat) (cy : Nat → ClassId) (a : Nat → Nat) (ha : injU a) (this : Nat) (hT : K1 this) (M : Mem) (v1 : Int32) (v2 : Int32) (v3 : Int32) (v4 : Int32) {o : Mem} (hf : f_X1_add M this v1 v2 v3 v4 = some o) : Met l yX1_add (wsU yX1_add cX1_add 5 none) ({ frames := 0, cells := 0, slots := 0, locals := 0 } : Room) (PU dC dI cy a [.ref (a this), .int v1, .int v2, .int v3, .int v4] M) (QUv dC dI cy a o) 0 0 (AU a) := by
  refine mw_met (by decide) ha (Nat.le_of_ble_eq_true rfl) ?_
  intro p e s m below meth c ls X hG hl
  have hl : lv_has ls 5 [(0, .ref (a this)), (1, .int v1), (2, .int v2), (3, .int v3), (4, .int v4)] := hl
  have X : XU dC dI cy a p s m c [.ref (a this), .int v1, .int v2, .int v3, .int v4].toArray meth cX1_add 5 RX1 none := X
  have hx := X.1.1
  have hb := X.1.2.1
  have hown := X.1.2.2.2.1
  have hts := X.1.2.2.2.2
  rw [f_X1_add] at hf
  refine lv_aload_n hx hb dX1_add_0 rfl (lv_at hl 0 rfl) ?_
  refine gf_X1_24 X hG hT dX1_add_1 ?_
  refine lv_sipush (v := 200) hx hb dX1_add_4 (by decide) ?_
  refine lv_icmp_lt (tgt := 11) hx hb dX1_add_7 (by decide) (fun c1 => ?_) (fun c1 => ?_)
  · have hf := itep c1 hf
    refine lv_aload_n hx hb dX1_add_11 rfl (lv_at hl 0 rfl) ?_
    refine gf_X1_9 X hG hT dX1_add_12 ?_
    refine lv_aload_n hx hb dX1_add_15 rfl (lv_at hl 0 rfl) ?_
    refine gf_X1_24 X hG hT dX1_add_16 ?_
    refine lv_iload_n hx hb dX1_add_19 rfl (lv_at hl 1 rfl) ?_
    obtain ⟨hi2, hf⟩ := ck_some hf
    refine mw_iast X hG hT.2.1 hi2 dX1_add_20 (fun M3 H locs eM3 hG => ?_)
    have hf := nm_of eM3 hf
    refine lv_aload_n hx hb dX1_add_21 rfl (lv_at hl 0 rfl) ?_
    refine gf_X1_15 X hG hT dX1_add_22 ?_
    refine lv_aload_n hx hb dX1_add_25 rfl (lv_at hl 0 rfl) ?_
    refine gf_X1_24 X hG hT dX1_add_26 ?_
    refine lv_iload_n hx hb dX1_add_29 rfl (lv_at hl 2 rfl) ?_
    obtain ⟨hi4, hf⟩ := ck_some hf
    refine mw_iast X hG hT.2.2.1 hi4 dX1_add_30 (fun M5 H locs eM5 hG => ?_)
    have hf := nm_of eM5 hf
    refine lv_aload_n hx hb dX1_add_31 rfl (lv_at hl 0 rfl) ?_
    refine gf_X1_18 X hG hT dX1_add_32 ?_
    refine lv_aload_n hx hb dX1_add_35 rfl (lv_at hl 0 rfl) ?_
    refine gf_X1_24 X hG hT dX1_add_36 ?_
    refine lv_iload_n hx hb dX1_add_39 rfl (lv_at hl 3 rfl) ?_
    obtain ⟨hi6, hf⟩ := ck_some hf
    refine mw_iast X hG hT.2.2.2.1 hi6 dX1_add_40 (fun M7 H locs eM7 hG => ?_)
    have hf := nm_of eM7 hf
    refine lv_aload_n hx hb dX1_add_41 rfl (lv_at hl 0 rfl) ?_
    refine gf_X1_21 X hG hT dX1_add_42 ?_
    refine lv_aload_n hx hb dX1_add_45 rfl (lv_at hl 0 rfl) ?_
    refine gf_X1_24 X hG hT dX1_add_46 ?_
    refine lv_iload hx hb dX1_add_49 (lv_at hl 4 rfl) ?_
    obtain ⟨hi8, hf⟩ := ck_some hf
    refine mw_iast X hG hT.2.2.2.2 hi8 dX1_add_51 (fun M9 H locs eM9 hG => ?_)
    have hf := nm_of eM9 hf
    refine lv_aload_n hx hb dX1_add_52 rfl (lv_at hl 0 rfl) ?_
    refine lv_dup hx hb dX1_add_53 rfl ?_
    refine gf_X1_24 X hG hT dX1_add_54 ?_
    refine lv_iconst (v := 1) hx hb dX1_add_57 (by decide) ?_
    refine lv_iadd hx hb dX1_add_58 ?_
    refine pf_X1_24 X hG hT dX1_add_59 (fun M10 H locs eM10 hG => ?_)
    have hf := nm_of eM10 hf
    obtain rfl := Option.some.inj hf
    exact mw_vret X hG dX1_add_62
  · have hf := iten c1 hf
    obtain rfl := Option.some.inj hf
    exact mw_vret X hG dX1_add_10
