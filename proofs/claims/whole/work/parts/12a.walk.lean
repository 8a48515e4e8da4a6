/-! X3_beginAnew -/
set_option maxHeartbeats 4000000 in
set_option maxRecDepth 100000 in
theorem w_X3_beginAnew_L10 {l : Launch} {dC : Nat → ClassId} {dI : Nat → Nat → Nat} {cy : Nat → ClassId} {a : Nat → Nat} {p : Program} {e : Env} {s : State} {m : MethodId} {args : Array Value} {below : List Frame} {meth : Method} {c : Code} (X : XU dC dI cy a p s m c args meth cX3_beginAnew 3 RX3 none) {this : Nat} (hT : K3 this) {v1 : Int32} {o : Mem} : ∀ (n : Nat) (M : Mem) (v2 : Int32) (H : Heap) (locs : List Loc) (ls : Array Slot), f_X3_beginAnew_L10 this v1 n M v2 = some o → GU dC dI cy a s.heap M H locs → lv_has ls 3 [(0, .ref (a this)), (1, .int v1), (2, .int v2)] → W p l e ({ frames := 0, cells := 0, slots := 0, locals := 0 } : Room) s m args below meth c H locs 0 0 (MQ below (QUv dC dI cy a o) args s 0 0 (AU a)) (F0 m 10 ls []) := by
  have hx := X.1.1
  have hb := X.1.2.1
  have hown := X.1.2.2.2.1
  have hts := X.1.2.2.2.2
  intro n
  induction n with
  | zero => intro M v2 H locs ls hf; cases hf
  | succ n ih =>
    intro M v2 H locs ls hf hG hl
    rw [f_X3_beginAnew_L10] at hf
    refine lv_iload_n hx hb dX3_beginAnew_10 rfl (lv_at hl 2 rfl) ?_
    refine lv_bipush (v := 6) hx hb dX3_beginAnew_11 (by decide) ?_
    refine lv_icmp_ge (tgt := 53) hx hb dX3_beginAnew_13 (by decide) (fun c1 => ?_) (fun c1 => ?_)
    · have hf := itep c1 hf
      refine lv_aload_n hx hb dX3_beginAnew_53 rfl (lv_at hl 0 rfl) ?_
      refine lv_iload_n hx hb dX3_beginAnew_54 rfl (lv_at hl 1 rfl) ?_
      refine pf_X3_43 X hG hT dX3_beginAnew_55 (fun M2 H locs eM2 hG => ?_)
      have hf := nm_of eM2 hf
      refine lv_aload_n hx hb dX3_beginAnew_58 rfl (lv_at hl 0 rfl) ?_
      refine lv_iconst (v := 0) hx hb dX3_beginAnew_59 (by decide) ?_
      refine pf_X3_46 X hG hT dX3_beginAnew_60 (fun M3 H locs eM3 hG => ?_)
      have hf := nm_of eM3 hf
      refine lv_aload_n hx hb dX3_beginAnew_63 rfl (lv_at hl 0 rfl) ?_
      refine lv_iconst (v := 0) hx hb dX3_beginAnew_64 (by decide) ?_
      refine pf_X3_49 X hG hT dX3_beginAnew_65 (fun M4 H locs eM4 hG => ?_)
      have hf := nm_of eM4 hf
      refine lv_aload_n hx hb dX3_beginAnew_68 rfl (lv_at hl 0 rfl) ?_
      refine lv_iconst (v := 0) hx hb dX3_beginAnew_69 (by decide) ?_
      refine pf_X3_52 X hG hT dX3_beginAnew_70 (fun M5 H locs eM5 hG => ?_)
      have hf := nm_of eM5 hf
      refine lv_aload_n hx hb dX3_beginAnew_73 rfl (lv_at hl 0 rfl) ?_
      refine lv_iconst (v := 0) hx hb dX3_beginAnew_74 (by decide) ?_
      refine pf_X3_55 X hG hT dX3_beginAnew_75 (fun M6 H locs eM6 hG => ?_)
      have hf := nm_of eM6 hf
      refine lv_aload_n hx hb dX3_beginAnew_78 rfl (lv_at hl 0 rfl) ?_
      refine lv_iconst (v := 0) hx hb dX3_beginAnew_79 (by decide) ?_
      refine pf_X3_58 X hG hT dX3_beginAnew_80 (fun M7 H locs eM7 hG => ?_)
      have hf := nm_of eM7 hf
      obtain rfl := Option.some.inj hf
      exact mw_vret X hG dX3_beginAnew_83
    · have hf := iten c1 hf
      refine lv_aload_n hx hb dX3_beginAnew_16 rfl (lv_at hl 0 rfl) ?_
      refine gf_X3_20 X hG hT dX3_beginAnew_17 ?_
      refine lv_iload_n hx hb dX3_beginAnew_20 rfl (lv_at hl 2 rfl) ?_
      obtain ⟨hi8, hf⟩ := ck_some hf
      refine mw_aald0 X hG hT.2.2.1 hi8 dX3_beginAnew_21 ?_
      refine lv_iconst (v := 0) hx hb dX3_beginAnew_22 (by decide) ?_
      refine pf_X3_42 X hG (hT.2.2.2.2.2.2 _ (vin_lt hi8)) dX3_beginAnew_23 (fun M9 H locs eM9 hG => ?_)
      have hf := nm_of eM9 hf
      refine lv_aload_n hx hb dX3_beginAnew_26 rfl (lv_at hl 0 rfl) ?_
      refine gf_X3_24 X hG hT dX3_beginAnew_27 ?_
      refine lv_iload_n hx hb dX3_beginAnew_30 rfl (lv_at hl 2 rfl) ?_
      refine lv_iconst (v := 0) hx hb dX3_beginAnew_31 (by decide) ?_
      obtain ⟨hi10, hf⟩ := ck_some hf
      refine mw_iast X hG hT.2.2.2.1 hi10 dX3_beginAnew_32 (fun M11 H locs eM11 hG => ?_)
      have hf := nm_of eM11 hf
      refine lv_aload_n hx hb dX3_beginAnew_33 rfl (lv_at hl 0 rfl) ?_
      refine gf_X3_28 X hG hT dX3_beginAnew_34 ?_
      refine lv_iload_n hx hb dX3_beginAnew_37 rfl (lv_at hl 2 rfl) ?_
      refine lv_iconst (v := 0) hx hb dX3_beginAnew_38 (by decide) ?_
      obtain ⟨hi12, hf⟩ := ck_some hf
      refine mw_iast X hG hT.2.2.2.2.1 hi12 dX3_beginAnew_39 (fun M13 H locs eM13 hG => ?_)
      have hf := nm_of eM13 hf
      refine lv_aload_n hx hb dX3_beginAnew_40 rfl (lv_at hl 0 rfl) ?_
      refine gf_X3_31 X hG hT dX3_beginAnew_41 ?_
      refine lv_iload_n hx hb dX3_beginAnew_44 rfl (lv_at hl 2 rfl) ?_
      refine lv_iconst (v := 0) hx hb dX3_beginAnew_45 (by decide) ?_
      obtain ⟨hi14, hf⟩ := ck_some hf
      refine mw_iast X hG hT.2.2.2.2.2.1 hi14 dX3_beginAnew_46 (fun M15 H locs eM15 hG => ?_)
      have hf := nm_of eM15 hf
      obtain ⟨x16, ex16⟩ : ∃ y : Int32, y = v2 + (1 : Int32) := ⟨_, rfl⟩
      have hf := nm_of ex16 hf
      refine lv_iinc (v := x16) (lv' := [(2, .int x16), (0, .ref (a this)), (1, .int v1)]) hx hb dX3_beginAnew_47 hl (k := 2) rfl (by rw [ex16]; rfl) (by decide) rfl (fun ls hl => ?_)
      refine lv_goto (tgt := 10) hx hb dX3_beginAnew_50 (by decide) ?_
      exact ih _ _ _ _ _ hf hG (lv_sub hl [1, 2, 0] rfl)
set_option maxHeartbeats 4000000 in
set_option maxRecDepth 100000 in
theorem c_X3_beginAnew (l : Launch) (dC : Nat → ClassId) (dI : Nat → Nat → Nat) (cy : Nat → ClassId) (a : Nat → Nat) (ha : injU a) (this : Nat) (hT : K3 this) (M : Mem) (v1 : Int32) {o : Mem} (hf : f_X3_beginAnew M this v1 = some o) : Met l yX3_beginAnew (wsU yX3_beginAnew cX3_beginAnew 3 none) ({ frames := 0, cells := 0, slots := 0, locals := 0 } : Room) (PU dC dI cy a [.ref (a this), .int v1] M) (QUv dC dI cy a o) 0 0 (AU a) := by
  refine mw_met (by decide) ha (Nat.le_of_ble_eq_true rfl) ?_
  intro p e s m below meth c ls X hG hl
  have hl : lv_has ls 3 [(0, .ref (a this)), (1, .int v1)] := hl
  have X : XU dC dI cy a p s m c [.ref (a this), .int v1].toArray meth cX3_beginAnew 3 RX3 none := X
  have hx := X.1.1
  have hb := X.1.2.1
  have hown := X.1.2.2.2.1
  have hts := X.1.2.2.2.2
  rw [f_X3_beginAnew] at hf
  refine lv_aload_n hx hb dX3_beginAnew_0 rfl (lv_at hl 0 rfl) ?_
  refine gf_X3_12 X hG hT dX3_beginAnew_1 ?_
  refine lv_iconst (v := 0) hx hb dX3_beginAnew_4 (by decide) ?_
  refine pf_X3_39 X hG hT.2.1 dX3_beginAnew_5 (fun M1 H locs eM1 hG => ?_)
  have hf := nm_of eM1 hf
  refine lv_iconst (v := 0) hx hb dX3_beginAnew_8 (by decide) ?_
  refine lv_istore_n (lv' := [(2, .int (0 : Int32)), (0, .ref (a this)), (1, .int v1)]) hx hb dX3_beginAnew_9 rfl hl (by decide) rfl (fun ls hl => ?_)
  exact w_X3_beginAnew_L10 X hT 1000 _ _ _ _ _ hf hG (lv_sub hl [1, 2, 0] rfl)
/-! X3_copyFrom -/
set_option maxHeartbeats 4000000 in
set_option maxRecDepth 100000 in
theorem w_X3_copyFrom_L13 {l : Launch} {dC : Nat → ClassId} {dI : Nat → Nat → Nat} {cy : Nat → ClassId} {a : Nat → Nat} {p : Program} {e : Env} {s : State} {m : MethodId} {args : Array Value} {below : List Frame} {meth : Method} {c : Code} (X : XU dC dI cy a p s m c args meth cX3_copyFrom 3 RX3 none) {this : Nat} (hT : K3 this) {r1 : Nat} (h1 : K3 r1) {o : Mem} : ∀ (n : Nat) (M : Mem) (v2 : Int32) (H : Heap) (locs : List Loc) (ls : Array Slot), f_X3_copyFrom_L13 this r1 n M v2 = some o → GU dC dI cy a s.heap M H locs → lv_has ls 3 [(0, .ref (a this)), (1, .ref (a r1)), (2, .int v2)] → W p l e ({ frames := 2, cells := 0, slots := 0, locals := 61 } : Room) s m args below meth c H locs 0 0 (MQ below (QUv dC dI cy a o) args s 0 0 (AU a)) (F0 m 13 ls []) := by
  have hx := X.1.1
  have hb := X.1.2.1
  have hown := X.1.2.2.2.1
  have hts := X.1.2.2.2.2
  intro n
  induction n with
  | zero => intro M v2 H locs ls hf; cases hf
  | succ n ih =>
    intro M v2 H locs ls hf hG hl
    rw [f_X3_copyFrom_L13] at hf
    refine lv_iload_n hx hb dX3_copyFrom_13 rfl (lv_at hl 2 rfl) ?_
    refine lv_bipush (v := 6) hx hb dX3_copyFrom_14 (by decide) ?_
    refine lv_icmp_ge (tgt := 76) hx hb dX3_copyFrom_16 (by decide) (fun c1 => ?_) (fun c1 => ?_)
    · have hf := itep c1 hf
      refine lv_aload_n hx hb dX3_copyFrom_76 rfl (lv_at hl 0 rfl) ?_
      refine lv_aload_n hx hb dX3_copyFrom_77 rfl (lv_at hl 1 rfl) ?_
      refine gf_X3_43 X hG h1 dX3_copyFrom_78 ?_
      refine pf_X3_43 X hG hT dX3_copyFrom_81 (fun M2 H locs eM2 hG => ?_)
      have hf := nm_of eM2 hf
      refine lv_aload_n hx hb dX3_copyFrom_84 rfl (lv_at hl 0 rfl) ?_
      refine lv_aload_n hx hb dX3_copyFrom_85 rfl (lv_at hl 1 rfl) ?_
      refine gf_X3_34 X hG h1 dX3_copyFrom_86 ?_
      refine pf_X3_34 X hG hT dX3_copyFrom_89 (fun M3 H locs eM3 hG => ?_)
      have hf := nm_of eM3 hf
      refine lv_aload_n hx hb dX3_copyFrom_92 rfl (lv_at hl 0 rfl) ?_
      refine lv_aload_n hx hb dX3_copyFrom_93 rfl (lv_at hl 1 rfl) ?_
      refine gf_X3_46 X hG h1 dX3_copyFrom_94 ?_
      refine pf_X3_46 X hG hT dX3_copyFrom_97 (fun M4 H locs eM4 hG => ?_)
      have hf := nm_of eM4 hf
      refine lv_aload_n hx hb dX3_copyFrom_100 rfl (lv_at hl 0 rfl) ?_
      refine lv_aload_n hx hb dX3_copyFrom_101 rfl (lv_at hl 1 rfl) ?_
      refine gf_X3_49 X hG h1 dX3_copyFrom_102 ?_
      refine pf_X3_49 X hG hT dX3_copyFrom_105 (fun M5 H locs eM5 hG => ?_)
      have hf := nm_of eM5 hf
      refine lv_aload_n hx hb dX3_copyFrom_108 rfl (lv_at hl 0 rfl) ?_
      refine lv_aload_n hx hb dX3_copyFrom_109 rfl (lv_at hl 1 rfl) ?_
      refine gf_X3_52 X hG h1 dX3_copyFrom_110 ?_
      refine pf_X3_52 X hG hT dX3_copyFrom_113 (fun M6 H locs eM6 hG => ?_)
      have hf := nm_of eM6 hf
      refine lv_aload_n hx hb dX3_copyFrom_116 rfl (lv_at hl 0 rfl) ?_
      refine lv_aload_n hx hb dX3_copyFrom_117 rfl (lv_at hl 1 rfl) ?_
      refine gf_X3_55 X hG h1 dX3_copyFrom_118 ?_
      refine pf_X3_55 X hG hT dX3_copyFrom_121 (fun M7 H locs eM7 hG => ?_)
      have hf := nm_of eM7 hf
      refine lv_aload_n hx hb dX3_copyFrom_124 rfl (lv_at hl 0 rfl) ?_
      refine lv_aload_n hx hb dX3_copyFrom_125 rfl (lv_at hl 1 rfl) ?_
      refine gf_X3_58 X hG h1 dX3_copyFrom_126 ?_
      refine pf_X3_58 X hG hT dX3_copyFrom_129 (fun M8 H locs eM8 hG => ?_)
      have hf := nm_of eM8 hf
      obtain rfl := Option.some.inj hf
      exact mw_vret X hG dX3_copyFrom_132
    · have hf := iten c1 hf
      refine lv_aload_n hx hb dX3_copyFrom_19 rfl (lv_at hl 0 rfl) ?_
      refine gf_X3_20 X hG hT dX3_copyFrom_20 ?_
      refine lv_iload_n hx hb dX3_copyFrom_23 rfl (lv_at hl 2 rfl) ?_
      obtain ⟨hi9, hf⟩ := ck_some hf
      refine mw_aald0 X hG hT.2.2.1 hi9 dX3_copyFrom_24 ?_
      refine lv_aload_n hx hb dX3_copyFrom_25 rfl (lv_at hl 1 rfl) ?_
      refine gf_X3_20 X hG h1 dX3_copyFrom_26 ?_
      refine lv_iload_n hx hb dX3_copyFrom_29 rfl (lv_at hl 2 rfl) ?_
      obtain ⟨hi10, hf⟩ := ck_some hf
      refine mw_aald0 X hG h1.2.2.1 hi10 dX3_copyFrom_30 ?_
      obtain ⟨M11, hr13, hf⟩ := bd_some hf
      refine mw_callVv (rest := []) X hG (hT.2.2.2.2.2.2 _ (vin_lt hi9)).1 rfl (c_X2_copyFrom l dC dI cy a X.2.2.1 (this + 9 + 4 + 4 * v2.toNatClampNeg) (hT.2.2.2.2.2.2 _ (vin_lt hi9)) M (r1 + 9 + 4 + 4 * v2.toNatClampNeg) (h1.2.2.2.2.2.2 _ (vin_lt hi10)) hr13) (mw_cwV X 1 g_X3_65 hd_X2_copyFrom ⟨rfl, rfl⟩ ⟨Nat.le_of_ble_eq_true rfl, Nat.le_of_ble_eq_true rfl⟩) rfl hl.1 rfl (Nat.le_of_ble_eq_true rfl) dX3_copyFrom_31 (fun H locs hG => ?_)
      refine lv_aload_n hx hb dX3_copyFrom_34 rfl (lv_at hl 0 rfl) ?_
      refine gf_X3_24 X hG hT dX3_copyFrom_35 ?_
      refine lv_iload_n hx hb dX3_copyFrom_38 rfl (lv_at hl 2 rfl) ?_
      refine lv_aload_n hx hb dX3_copyFrom_39 rfl (lv_at hl 1 rfl) ?_
      refine gf_X3_24 X hG h1 dX3_copyFrom_40 ?_
      refine lv_iload_n hx hb dX3_copyFrom_43 rfl (lv_at hl 2 rfl) ?_
      obtain ⟨hi14, hf⟩ := ck_some hf
      refine mw_iald X hG h1.2.2.2.1 hi14 dX3_copyFrom_44 ?_
      obtain ⟨hi15, hf⟩ := ck_some hf
      refine mw_iast X hG hT.2.2.2.1 hi15 dX3_copyFrom_45 (fun M16 H locs eM16 hG => ?_)
      have hf := nm_of eM16 hf
      refine lv_aload_n hx hb dX3_copyFrom_46 rfl (lv_at hl 0 rfl) ?_
      refine gf_X3_28 X hG hT dX3_copyFrom_47 ?_
      refine lv_iload_n hx hb dX3_copyFrom_50 rfl (lv_at hl 2 rfl) ?_
      refine lv_aload_n hx hb dX3_copyFrom_51 rfl (lv_at hl 1 rfl) ?_
      refine gf_X3_28 X hG h1 dX3_copyFrom_52 ?_
      refine lv_iload_n hx hb dX3_copyFrom_55 rfl (lv_at hl 2 rfl) ?_
      obtain ⟨hi17, hf⟩ := ck_some hf
      refine mw_iald X hG h1.2.2.2.2.1 hi17 dX3_copyFrom_56 ?_
      obtain ⟨hi18, hf⟩ := ck_some hf
      refine mw_iast X hG hT.2.2.2.2.1 hi18 dX3_copyFrom_57 (fun M19 H locs eM19 hG => ?_)
      have hf := nm_of eM19 hf
      refine lv_aload_n hx hb dX3_copyFrom_58 rfl (lv_at hl 0 rfl) ?_
      refine gf_X3_31 X hG hT dX3_copyFrom_59 ?_
      refine lv_iload_n hx hb dX3_copyFrom_62 rfl (lv_at hl 2 rfl) ?_
      refine lv_aload_n hx hb dX3_copyFrom_63 rfl (lv_at hl 1 rfl) ?_
      refine gf_X3_31 X hG h1 dX3_copyFrom_64 ?_
      refine lv_iload_n hx hb dX3_copyFrom_67 rfl (lv_at hl 2 rfl) ?_
      obtain ⟨hi20, hf⟩ := ck_some hf
      refine mw_iald X hG h1.2.2.2.2.2.1 hi20 dX3_copyFrom_68 ?_
      obtain ⟨hi21, hf⟩ := ck_some hf
      refine mw_iast X hG hT.2.2.2.2.2.1 hi21 dX3_copyFrom_69 (fun M22 H locs eM22 hG => ?_)
      have hf := nm_of eM22 hf
      obtain ⟨x23, ex23⟩ : ∃ y : Int32, y = v2 + (1 : Int32) := ⟨_, rfl⟩
      have hf := nm_of ex23 hf
      refine lv_iinc (v := x23) (lv' := [(2, .int x23), (0, .ref (a this)), (1, .ref (a r1))]) hx hb dX3_copyFrom_70 hl (k := 2) rfl (by rw [ex23]; rfl) (by decide) rfl (fun ls hl => ?_)
      refine lv_goto (tgt := 13) hx hb dX3_copyFrom_73 (by decide) ?_
      exact ih _ _ _ _ _ hf hG (lv_sub hl [1, 2, 0] rfl)
set_option maxHeartbeats 4000000 in
set_option maxRecDepth 100000 in
theorem c_X3_copyFrom (l : Launch) (dC : Nat → ClassId) (dI : Nat → Nat → Nat) (cy : Nat → ClassId) (a : Nat → Nat) (ha : injU a) (this : Nat) (hT : K3 this) (M : Mem) (r1 : Nat) (h1 : K3 r1) {o : Mem} (hf : f_X3_copyFrom M this r1 = some o) : Met l yX3_copyFrom (wsU yX3_copyFrom cX3_copyFrom 3 none) ({ frames := 2, cells := 0, slots := 0, locals := 61 } : Room) (PU dC dI cy a [.ref (a this), .ref (a r1)] M) (QUv dC dI cy a o) 0 0 (AU a) := by
  refine mw_met (by decide) ha (Nat.le_of_ble_eq_true rfl) ?_
  intro p e s m below meth c ls X hG hl
  have hl : lv_has ls 3 [(0, .ref (a this)), (1, .ref (a r1))] := hl
  have X : XU dC dI cy a p s m c [.ref (a this), .ref (a r1)].toArray meth cX3_copyFrom 3 RX3 none := X
  have hx := X.1.1
  have hb := X.1.2.1
  have hown := X.1.2.2.2.1
  have hts := X.1.2.2.2.2
  rw [f_X3_copyFrom] at hf
  refine lv_aload_n hx hb dX3_copyFrom_0 rfl (lv_at hl 0 rfl) ?_
  refine gf_X3_12 X hG hT dX3_copyFrom_1 ?_
  refine lv_aload_n hx hb dX3_copyFrom_4 rfl (lv_at hl 1 rfl) ?_
  refine gf_X3_12 X hG h1 dX3_copyFrom_5 ?_
  obtain ⟨M1, hr3, hf⟩ := bd_some hf
  refine mw_callVv (rest := []) X hG hT.2.1.1 rfl (c_X0_copyFrom l dC dI cy a X.2.2.1 (this + 1) hT.2.1 M (r1 + 1) h1.2.1 hr3) (mw_cwV X 1 g_X3_61 hd_X0_copyFrom ⟨rfl, rfl⟩ ⟨Nat.le_of_ble_eq_true rfl, Nat.le_of_ble_eq_true rfl⟩) rfl hl.1 rfl (Nat.le_of_ble_eq_true rfl) dX3_copyFrom_8 (fun H locs hG => ?_)
  refine lv_iconst (v := 0) hx hb dX3_copyFrom_11 (by decide) ?_
  refine lv_istore_n (lv' := [(2, .int (0 : Int32)), (0, .ref (a this)), (1, .ref (a r1))]) hx hb dX3_copyFrom_12 rfl hl (by decide) rfl (fun ls hl => ?_)
  exact w_X3_copyFrom_L13 X hT h1 1000 _ _ _ _ _ hf hG (lv_sub hl [1, 2, 0] rfl)
/-! X3_roundsAndLetGo -/
set_option maxHeartbeats 4000000 in
set_option maxRecDepth 100000 in
theorem c_X3_roundsAndLetGo (l : Launch) (dC : Nat → ClassId) (dI : Nat → Nat → Nat) (cy : Nat → ClassId) (a : Nat → Nat) (ha : injU a) (this : Nat) (hT : K3 this) (M : Mem) {o : Int32} (hf : f_X3_roundsAndLetGo M this = some o) : Met l yX3_roundsAndLetGo (wsU yX3_roundsAndLetGo cX3_roundsAndLetGo 1 (some .int)) ({ frames := 0, cells := 0, slots := 0, locals := 0 } : Room) (PU dC dI cy a [.ref (a this)] M) (QUi dC dI cy a o M) 0 0 (AU a) := by
  refine mw_met (by decide) ha (Nat.le_of_ble_eq_true rfl) ?_
  intro p e s m below meth c ls X hG hl
  have hl : lv_has ls 1 [(0, .ref (a this))] := hl
  have X : XU dC dI cy a p s m c [.ref (a this)].toArray meth cX3_roundsAndLetGo 1 RX3 (some .int) := X
  have hx := X.1.1
  have hb := X.1.2.1
  have hown := X.1.2.2.2.1
  have hts := X.1.2.2.2.2
  rw [f_X3_roundsAndLetGo] at hf
  refine lv_aload_n hx hb dX3_roundsAndLetGo_0 rfl (lv_at hl 0 rfl) ?_
  refine gf_X3_52 X hG hT dX3_roundsAndLetGo_1 ?_
  refine lv_aload_n hx hb dX3_roundsAndLetGo_4 rfl (lv_at hl 0 rfl) ?_
  refine gf_X3_55 X hG hT dX3_roundsAndLetGo_5 ?_
  refine lv_iadd hx hb dX3_roundsAndLetGo_8 ?_
  obtain rfl := Option.some.inj hf
  exact mw_iret X hG dX3_roundsAndLetGo_9
/-! X3_eventsThatWait -/
set_option maxHeartbeats 4000000 in
set_option maxRecDepth 100000 in
theorem w_X3_eventsThatWait_L4 {l : Launch} {dC : Nat → ClassId} {dI : Nat → Nat → Nat} {cy : Nat → ClassId} {a : Nat → Nat} {p : Program} {e : Env} {s : State} {m : MethodId} {args : Array Value} {below : List Frame} {meth : Method} {c : Code} (X : XU dC dI cy a p s m c args meth cX3_eventsThatWait 3 RX3 (some .int)) {M : Mem} {this : Nat} (hT : K3 this) {o : Int32} : ∀ (n : Nat) (v1 : Int32) (v2 : Int32) (H : Heap) (locs : List Loc) (ls : Array Slot), f_X3_eventsThatWait_L4 M this n v1 v2 = some o → GU dC dI cy a s.heap M H locs → lv_has ls 3 [(0, .ref (a this)), (1, .int v1), (2, .int v2)] → W p l e ({ frames := 0, cells := 0, slots := 0, locals := 0 } : Room) s m args below meth c H locs 0 0 (MQ below (QUi dC dI cy a o M) args s 0 0 (AU a)) (F0 m 4 ls []) := by
  have hx := X.1.1
  have hb := X.1.2.1
  have hown := X.1.2.2.2.1
  have hts := X.1.2.2.2.2
  intro n
  induction n with
  | zero => intro v1 v2 H locs ls hf; cases hf
  | succ n ih =>
    intro v1 v2 H locs ls hf hG hl
    rw [f_X3_eventsThatWait_L4] at hf
    refine lv_iload_n hx hb dX3_eventsThatWait_4 rfl (lv_at hl 2 rfl) ?_
    refine lv_aload_n hx hb dX3_eventsThatWait_5 rfl (lv_at hl 0 rfl) ?_
    refine gf_X3_43 X hG hT dX3_eventsThatWait_6 ?_
    refine lv_icmp_ge (tgt := 30) hx hb dX3_eventsThatWait_9 (by decide) (fun c1 => ?_) (fun c1 => ?_)
    · have hf := itep c1 hf
      refine lv_iload_n hx hb dX3_eventsThatWait_30 rfl (lv_at hl 1 rfl) ?_
      obtain rfl := Option.some.inj hf
      exact mw_iret X hG dX3_eventsThatWait_31
    · have hf := iten c1 hf
      refine lv_iload_n hx hb dX3_eventsThatWait_12 rfl (lv_at hl 1 rfl) ?_
      refine lv_aload_n hx hb dX3_eventsThatWait_13 rfl (lv_at hl 0 rfl) ?_
      refine gf_X3_20 X hG hT dX3_eventsThatWait_14 ?_
      refine lv_iload_n hx hb dX3_eventsThatWait_17 rfl (lv_at hl 2 rfl) ?_
      obtain ⟨hi2, hf⟩ := ck_some hf
      refine mw_aald0 X hG hT.2.2.1 hi2 dX3_eventsThatWait_18 ?_
      refine gf_X3_42 X hG (hT.2.2.2.2.2.2 _ (vin_lt hi2)) dX3_eventsThatWait_19 ?_
      refine lv_iadd hx hb dX3_eventsThatWait_22 ?_
      refine lv_topi (fun x3 ex3 => ?_)
      have hf := nm_of ex3 hf
      refine lv_istore_n (lv' := [(1, .int x3), (0, .ref (a this)), (2, .int v2)]) hx hb dX3_eventsThatWait_23 rfl hl (by decide) rfl (fun ls hl => ?_)
      obtain ⟨x4, ex4⟩ : ∃ y : Int32, y = v2 + (1 : Int32) := ⟨_, rfl⟩
      have hf := nm_of ex4 hf
      refine lv_iinc (v := x4) (lv' := [(2, .int x4), (1, .int x3), (0, .ref (a this))]) hx hb dX3_eventsThatWait_24 hl (k := 2) rfl (by rw [ex4]; rfl) (by decide) rfl (fun ls hl => ?_)
      refine lv_goto (tgt := 4) hx hb dX3_eventsThatWait_27 (by decide) ?_
      exact ih _ _ _ _ _ hf hG (lv_sub hl [2, 1, 0] rfl)
set_option maxHeartbeats 4000000 in
set_option maxRecDepth 100000 in
theorem c_X3_eventsThatWait (l : Launch) (dC : Nat → ClassId) (dI : Nat → Nat → Nat) (cy : Nat → ClassId) (a : Nat → Nat) (ha : injU a) (this : Nat) (hT : K3 this) (M : Mem) {o : Int32} (hf : f_X3_eventsThatWait M this = some o) : Met l yX3_eventsThatWait (wsU yX3_eventsThatWait cX3_eventsThatWait 3 (some .int)) ({ frames := 0, cells := 0, slots := 0, locals := 0 } : Room) (PU dC dI cy a [.ref (a this)] M) (QUi dC dI cy a o M) 0 0 (AU a) := by
  refine mw_met (by decide) ha (Nat.le_of_ble_eq_true rfl) ?_
  intro p e s m below meth c ls X hG hl
  have hl : lv_has ls 3 [(0, .ref (a this))] := hl
  have X : XU dC dI cy a p s m c [.ref (a this)].toArray meth cX3_eventsThatWait 3 RX3 (some .int) := X
  have hx := X.1.1
  have hb := X.1.2.1
  have hown := X.1.2.2.2.1
  have hts := X.1.2.2.2.2
  rw [f_X3_eventsThatWait] at hf
  refine lv_iconst (v := 0) hx hb dX3_eventsThatWait_0 (by decide) ?_
  refine lv_istore_n (lv' := [(1, .int (0 : Int32)), (0, .ref (a this))]) hx hb dX3_eventsThatWait_1 rfl hl (by decide) rfl (fun ls hl => ?_)
  refine lv_iconst (v := 0) hx hb dX3_eventsThatWait_2 (by decide) ?_
  refine lv_istore_n (lv' := [(2, .int (0 : Int32)), (1, .int (0 : Int32)), (0, .ref (a this))]) hx hb dX3_eventsThatWait_3 rfl hl (by decide) rfl (fun ls hl => ?_)
  exact w_X3_eventsThatWait_L4 X hT 1000 _ _ _ _ _ hf hG (lv_sub hl [2, 1, 0] rfl)
/-! X3_partOfLeastTime -/
set_option maxHeartbeats 4000000 in
set_option maxRecDepth 100000 in
theorem w_X3_partOfLeastTime_L35 {l : Launch} {dC : Nat → ClassId} {dI : Nat → Nat → Nat} {cy : Nat → ClassId} {a : Nat → Nat} {p : Program} {e : Env} {s : State} {m : MethodId} {args : Array Value} {below : List Frame} {meth : Method} {c : Code} (X : XU dC dI cy a p s m c args meth cX3_partOfLeastTime 3 RX3 (some .int)) {M : Mem} {this : Nat} (hT : K3 this) {v1 : Int32} {v2 : Int32} {o : Int32} {k4 : Int32 → Int32 → Option Int32} (hk4 : ∀ (v1 : Int32) (v2 : Int32) (H : Heap) (locs : List Loc) (ls : Array Slot), k4 v1 v2 = some o → GU dC dI cy a s.heap M H locs → lv_has ls 3 [(0, .ref (a this)), (1, .int v1), (2, .int v2)] → W p l e ({ frames := 1, cells := 0, slots := 0, locals := 20 } : Room) s m args below meth c H locs 0 0 (MQ below (QUi dC dI cy a o M) args s 0 0 (AU a)) (F0 m 4 ls [])) {H : Heap} {locs : List Loc} {ls : Array Slot} (hf : f_X3_partOfLeastTime_L35 k4 M this v1 v2 = some o) (hG : GU dC dI cy a s.heap M H locs) (hl : lv_has ls 3 [(0, .ref (a this)), (1, .int v1), (2, .int v2)]) : W p l e ({ frames := 1, cells := 0, slots := 0, locals := 20 } : Room) s m args below meth c H locs 0 0 (MQ below (QUi dC dI cy a o M) args s 0 0 (AU a)) (F0 m 35 ls []) := by
  have hx := X.1.1
  have hb := X.1.2.1
  have hown := X.1.2.2.2.1
  have hts := X.1.2.2.2.2
  rw [f_X3_partOfLeastTime_L35] at hf
  obtain ⟨x1, ex1⟩ : ∃ y : Int32, y = v2 + (1 : Int32) := ⟨_, rfl⟩
  have hf := nm_of ex1 hf
  refine lv_iinc (v := x1) (lv' := [(2, .int x1), (0, .ref (a this)), (1, .int v1)]) hx hb dX3_partOfLeastTime_35 hl (k := 2) rfl (by rw [ex1]; rfl) (by decide) rfl (fun ls hl => ?_)
  refine lv_goto (tgt := 4) hx hb dX3_partOfLeastTime_38 (by decide) ?_
  exact hk4 _ _ _ _ _ hf hG (lv_sub hl [1, 2, 0] rfl)
set_option maxHeartbeats 4000000 in
set_option maxRecDepth 100000 in
theorem w_X3_partOfLeastTime_L4 {l : Launch} {dC : Nat → ClassId} {dI : Nat → Nat → Nat} {cy : Nat → ClassId} {a : Nat → Nat} {p : Program} {e : Env} {s : State} {m : MethodId} {args : Array Value} {below : List Frame} {meth : Method} {c : Code} (X : XU dC dI cy a p s m c args meth cX3_partOfLeastTime 3 RX3 (some .int)) {M : Mem} {this : Nat} (hT : K3 this) {o : Int32} : ∀ (n : Nat) (v1 : Int32) (v2 : Int32) (H : Heap) (locs : List Loc) (ls : Array Slot), f_X3_partOfLeastTime_L4 M this n v1 v2 = some o → GU dC dI cy a s.heap M H locs → lv_has ls 3 [(0, .ref (a this)), (1, .int v1), (2, .int v2)] → W p l e ({ frames := 1, cells := 0, slots := 0, locals := 20 } : Room) s m args below meth c H locs 0 0 (MQ below (QUi dC dI cy a o M) args s 0 0 (AU a)) (F0 m 4 ls []) := by
  have hx := X.1.1
  have hb := X.1.2.1
  have hown := X.1.2.2.2.1
  have hts := X.1.2.2.2.2
  intro n
  induction n with
  | zero => intro v1 v2 H locs ls hf; cases hf
  | succ n ih =>
    intro v1 v2 H locs ls hf hG hl
    rw [f_X3_partOfLeastTime_L4] at hf
    refine lv_iload_n hx hb dX3_partOfLeastTime_4 rfl (lv_at hl 2 rfl) ?_
    refine lv_aload_n hx hb dX3_partOfLeastTime_5 rfl (lv_at hl 0 rfl) ?_
    refine gf_X3_43 X hG hT dX3_partOfLeastTime_6 ?_
    refine lv_icmp_ge (tgt := 41) hx hb dX3_partOfLeastTime_9 (by decide) (fun c1 => ?_) (fun c1 => ?_)
    · have hf := itep c1 hf
      refine lv_iload_n hx hb dX3_partOfLeastTime_41 rfl (lv_at hl 1 rfl) ?_
      obtain rfl := Option.some.inj hf
      exact mw_iret X hG dX3_partOfLeastTime_42
    · have hf := iten c1 hf
      refine lv_aload_n hx hb dX3_partOfLeastTime_12 rfl (lv_at hl 0 rfl) ?_
      refine gf_X3_20 X hG hT dX3_partOfLeastTime_13 ?_
      refine lv_iload_n hx hb dX3_partOfLeastTime_16 rfl (lv_at hl 2 rfl) ?_
      obtain ⟨hi2, hf⟩ := ck_some hf
      refine mw_aald0 X hG hT.2.2.1 hi2 dX3_partOfLeastTime_17 ?_
      obtain ⟨x3, hr4, hf⟩ := bd_some hf
      refine mw_callVi (rest := []) X hG (hT.2.2.2.2.2.2 _ (vin_lt hi2)).1 rfl (c_X2_firstTime l dC dI cy a X.2.2.1 (this + 9 + 4 + 4 * v2.toNatClampNeg) (hT.2.2.2.2.2.2 _ (vin_lt hi2)) M  hr4) (mw_cwV X 0 g_X3_68 hd_X2_firstTime ⟨rfl, rfl⟩ ⟨Nat.le_of_ble_eq_true rfl, Nat.le_of_ble_eq_true rfl⟩) rfl hl.1 rfl (Nat.le_of_ble_eq_true rfl) dX3_partOfLeastTime_18 (fun H locs hG => ?_)
      refine lv_aload_n hx hb dX3_partOfLeastTime_21 rfl (lv_at hl 0 rfl) ?_
      refine gf_X3_20 X hG hT dX3_partOfLeastTime_22 ?_
      refine lv_iload_n hx hb dX3_partOfLeastTime_25 rfl (lv_at hl 1 rfl) ?_
      obtain ⟨hi5, hf⟩ := ck_some hf
      refine mw_aald0 X hG hT.2.2.1 hi5 dX3_partOfLeastTime_26 ?_
      obtain ⟨x6, hr7, hf⟩ := bd_some hf
      refine mw_callVi (rest := [.int x3]) X hG (hT.2.2.2.2.2.2 _ (vin_lt hi5)).1 rfl (c_X2_firstTime l dC dI cy a X.2.2.1 (this + 9 + 4 + 4 * v1.toNatClampNeg) (hT.2.2.2.2.2.2 _ (vin_lt hi5)) M  hr7) (mw_cwV X 0 g_X3_68 hd_X2_firstTime ⟨rfl, rfl⟩ ⟨Nat.le_of_ble_eq_true rfl, Nat.le_of_ble_eq_true rfl⟩) rfl hl.1 rfl (Nat.le_of_ble_eq_true rfl) dX3_partOfLeastTime_27 (fun H locs hG => ?_)
      refine lv_icmp_ge (tgt := 35) hx hb dX3_partOfLeastTime_30 (by decide) (fun c8 => ?_) (fun c8 => ?_)
      · have hf := itep c8 hf
        exact w_X3_partOfLeastTime_L35 X hT ih hf hG (lv_sub hl [0, 1, 2] rfl)
      · have hf := iten c8 hf
        refine lv_iload_n hx hb dX3_partOfLeastTime_33 rfl (lv_at hl 2 rfl) ?_
        refine lv_istore_n (lv' := [(1, .int v2), (0, .ref (a this)), (2, .int v2)]) hx hb dX3_partOfLeastTime_34 rfl hl (by decide) rfl (fun ls hl => ?_)
        exact w_X3_partOfLeastTime_L35 X hT ih hf hG (lv_sub hl [1, 0, 2] rfl)
set_option maxHeartbeats 4000000 in
set_option maxRecDepth 100000 in
theorem c_X3_partOfLeastTime (l : Launch) (dC : Nat → ClassId) (dI : Nat → Nat → Nat) (cy : Nat → ClassId) (a : Nat → Nat) (ha : injU a) (this : Nat) (hT : K3 this) (M : Mem) {o : Int32} (hf : f_X3_partOfLeastTime M this = some o) : Met l yX3_partOfLeastTime (wsU yX3_partOfLeastTime cX3_partOfLeastTime 3 (some .int)) ({ frames := 1, cells := 0, slots := 0, locals := 20 } : Room) (PU dC dI cy a [.ref (a this)] M) (QUi dC dI cy a o M) 0 0 (AU a) := by
  refine mw_met (by decide) ha (Nat.le_of_ble_eq_true rfl) ?_
  intro p e s m below meth c ls X hG hl
  have hl : lv_has ls 3 [(0, .ref (a this))] := hl
  have X : XU dC dI cy a p s m c [.ref (a this)].toArray meth cX3_partOfLeastTime 3 RX3 (some .int) := X
  have hx := X.1.1
  have hb := X.1.2.1
  have hown := X.1.2.2.2.1
  have hts := X.1.2.2.2.2
  rw [f_X3_partOfLeastTime] at hf
  refine lv_iconst (v := 0) hx hb dX3_partOfLeastTime_0 (by decide) ?_
  refine lv_istore_n (lv' := [(1, .int (0 : Int32)), (0, .ref (a this))]) hx hb dX3_partOfLeastTime_1 rfl hl (by decide) rfl (fun ls hl => ?_)
  refine lv_iconst (v := 1) hx hb dX3_partOfLeastTime_2 (by decide) ?_
  refine lv_istore_n (lv' := [(2, .int (1 : Int32)), (1, .int (0 : Int32)), (0, .ref (a this))]) hx hb dX3_partOfLeastTime_3 rfl hl (by decide) rfl (fun ls hl => ?_)
  exact w_X3_partOfLeastTime_L4 X hT 1000 _ _ _ _ _ hf hG (lv_sub hl [2, 1, 0] rfl)
/-! X3_leastTime -/
set_option maxHeartbeats 4000000 in
set_option maxRecDepth 100000 in
theorem c_X3_leastTime (l : Launch) (dC : Nat → ClassId) (dI : Nat → Nat → Nat) (cy : Nat → ClassId) (a : Nat → Nat) (ha : injU a) (this : Nat) (hT : K3 this) (M : Mem) {o : Int32} (hf : f_X3_leastTime M this = some o) : Met l yX3_leastTime (wsU yX3_leastTime cX3_leastTime 1 (some .int)) ({ frames := 2, cells := 0, slots := 0, locals := 42 } : Room) (PU dC dI cy a [.ref (a this)] M) (QUi dC dI cy a o M) 0 0 (AU a) := by
  refine mw_met (by decide) ha (Nat.le_of_ble_eq_true rfl) ?_
  intro p e s m below meth c ls X hG hl
  have hl : lv_has ls 1 [(0, .ref (a this))] := hl
  have X : XU dC dI cy a p s m c [.ref (a this)].toArray meth cX3_leastTime 1 RX3 (some .int) := X
  have hx := X.1.1
  have hb := X.1.2.1
  have hown := X.1.2.2.2.1
  have hts := X.1.2.2.2.2
  rw [f_X3_leastTime] at hf
  refine lv_aload_n hx hb dX3_leastTime_0 rfl (lv_at hl 0 rfl) ?_
  refine gf_X3_20 X hG hT dX3_leastTime_1 ?_
  refine lv_aload_n hx hb dX3_leastTime_4 rfl (lv_at hl 0 rfl) ?_
  obtain ⟨x1, hr2, hf⟩ := bd_some hf
  refine mw_callVi (rest := [.ref (a (this + 9))]) X hG hT.1 rfl (c_X3_partOfLeastTime l dC dI cy a X.2.2.1 this hT M  hr2) (mw_cwV X 0 g_X3_72 hd_X3_partOfLeastTime ⟨rfl, rfl⟩ ⟨Nat.le_of_ble_eq_true rfl, Nat.le_of_ble_eq_true rfl⟩) rfl hl.1 rfl (Nat.le_of_ble_eq_true rfl) dX3_leastTime_5 (fun H locs hG => ?_)
  obtain ⟨hi3, hf⟩ := ck_some hf
  refine mw_aald0 X hG hT.2.2.1 hi3 dX3_leastTime_8 ?_
  obtain ⟨x4, hr5, hf⟩ := bd_some hf
  refine mw_callVi (rest := []) X hG (hT.2.2.2.2.2.2 _ (vin_lt hi3)).1 rfl (c_X2_firstTime l dC dI cy a X.2.2.1 (this + 9 + 4 + 4 * x1.toNatClampNeg) (hT.2.2.2.2.2.2 _ (vin_lt hi3)) M  hr5) (mw_cwV X 0 g_X3_68 hd_X2_firstTime ⟨rfl, rfl⟩ ⟨Nat.le_of_ble_eq_true rfl, Nat.le_of_ble_eq_true rfl⟩) rfl hl.1 rfl (Nat.le_of_ble_eq_true rfl) dX3_leastTime_9 (fun H locs hG => ?_)
  obtain rfl := Option.some.inj hf
  exact mw_iret X hG dX3_leastTime_12
/-! X3_safeOf -/
set_option maxHeartbeats 4000000 in
set_option maxRecDepth 100000 in
theorem w_X3_safeOf_L28 {l : Launch} {dC : Nat → ClassId} {dI : Nat → Nat → Nat} {cy : Nat → ClassId} {a : Nat → Nat} {p : Program} {e : Env} {s : State} {m : MethodId} {args : Array Value} {below : List Frame} {meth : Method} {c : Code} (X : XU dC dI cy a p s m c args meth cX3_safeOf 3 RX3 (some .int)) {M : Mem} {this : Nat} (hT : K3 this) {s0 : Int32} {o : Int32} {H : Heap} {locs : List Loc} {ls : Array Slot} (hf : f_X3_safeOf_L28 M this s0 = some o) (hG : GU dC dI cy a s.heap M H locs) (hl : lv_has ls 3 [(0, .ref (a this))]) : W p l e ({ frames := 1, cells := 0, slots := 0, locals := 23 } : Room) s m args below meth c H locs 0 0 (MQ below (QUi dC dI cy a o M) args s 0 0 (AU a)) (F0 m 28 ls [.int s0]) := by
  have hx := X.1.1
  have hb := X.1.2.1
  have hown := X.1.2.2.2.1
  have hts := X.1.2.2.2.2
  rw [f_X3_safeOf_L28] at hf
  obtain rfl := Option.some.inj hf
  exact mw_iret X hG dX3_safeOf_28
set_option maxHeartbeats 4000000 in
set_option maxRecDepth 100000 in
theorem c_X3_safeOf (l : Launch) (dC : Nat → ClassId) (dI : Nat → Nat → Nat) (cy : Nat → ClassId) (a : Nat → Nat) (ha : injU a) (this : Nat) (hT : K3 this) (M : Mem) (v1 : Int32) {o : Int32} (hf : f_X3_safeOf M this v1 = some o) : Met l yX3_safeOf (wsU yX3_safeOf cX3_safeOf 3 (some .int)) ({ frames := 1, cells := 0, slots := 0, locals := 23 } : Room) (PU dC dI cy a [.ref (a this), .int v1] M) (QUi dC dI cy a o M) 0 0 (AU a) := by
  refine mw_met (by decide) ha (Nat.le_of_ble_eq_true rfl) ?_
  intro p e s m below meth c ls X hG hl
  have hl : lv_has ls 3 [(0, .ref (a this)), (1, .int v1)] := hl
  have X : XU dC dI cy a p s m c [.ref (a this), .int v1].toArray meth cX3_safeOf 3 RX3 (some .int) := X
  have hx := X.1.1
  have hb := X.1.2.1
  have hown := X.1.2.2.2.1
  have hts := X.1.2.2.2.2
  rw [f_X3_safeOf] at hf
  refine lv_aload_n hx hb dX3_safeOf_0 rfl (lv_at hl 0 rfl) ?_
  refine gf_X3_12 X hG hT dX3_safeOf_1 ?_
  refine lv_iload_n hx hb dX3_safeOf_4 rfl (lv_at hl 1 rfl) ?_
  obtain ⟨x1, hr2, hf⟩ := bd_some hf
  refine mw_callVi (rest := []) X hG hT.2.1.1 rfl (c_X0_ofLeastClockTo l dC dI cy a X.2.2.1 (this + 1) hT.2.1 M v1 hr2) (mw_cwV X 1 g_X3_75 hd_X0_ofLeastClockTo ⟨rfl, rfl⟩ ⟨Nat.le_of_ble_eq_true rfl, Nat.le_of_ble_eq_true rfl⟩) rfl hl.1 rfl (Nat.le_of_ble_eq_true rfl) dX3_safeOf_5 (fun H locs hG => ?_)
  refine lv_istore_n (lv' := [(2, .int x1), (0, .ref (a this)), (1, .int v1)]) hx hb dX3_safeOf_8 rfl hl (by decide) rfl (fun ls hl => ?_)
  refine lv_iload_n hx hb dX3_safeOf_9 rfl (lv_at hl 0 rfl) ?_
  refine lv_iconst (v := -1) hx hb dX3_safeOf_10 (by decide) ?_
  refine lv_icmp_ne (tgt := 19) hx hb dX3_safeOf_11 (by decide) (fun c3 => ?_) (fun c3 => ?_)
  · have hf := iten c3 hf
    refine lv_aload_n hx hb dX3_safeOf_19 rfl (lv_at hl 1 rfl) ?_
    refine gf_X3_12 X hG hT dX3_safeOf_20 ?_
    refine gf_X3_80 X hG hT.2.1 dX3_safeOf_23 ?_
    refine lv_iload_n hx hb dX3_safeOf_26 rfl (lv_at hl 0 rfl) ?_
    obtain ⟨hi4, hf⟩ := ck_some hf
    refine mw_iald X hG hT.2.1.2.2.2.2.2.1 hi4 dX3_safeOf_27 ?_
    exact w_X3_safeOf_L28 X hT hf hG (lv_sub hl [1] rfl)
  · have hf := itep c3 hf
    refine lv_ldc (v := 99999999) hx hb hown (hts _ wd_ct_X3_79) dX3_safeOf_14 ?_
    refine lv_goto (tgt := 28) hx hb dX3_safeOf_16 (by decide) ?_
    exact w_X3_safeOf_L28 X hT hf hG (lv_sub hl [1] rfl)
/-! X3_mayWork -/
set_option maxHeartbeats 4000000 in
set_option maxRecDepth 100000 in
theorem w_X3_mayWork_L22 {l : Launch} {dC : Nat → ClassId} {dI : Nat → Nat → Nat} {cy : Nat → ClassId} {a : Nat → Nat} {p : Program} {e : Env} {s : State} {m : MethodId} {args : Array Value} {below : List Frame} {meth : Method} {c : Code} (X : XU dC dI cy a p s m c args meth cX3_mayWork 2 RX3 (some .boolean)) {M : Mem} {this : Nat} (hT : K3 this) {s0 : Int32} {o : Int32} {H : Heap} {locs : List Loc} {ls : Array Slot} (hf : f_X3_mayWork_L22 M this s0 = some o) (hG : GU dC dI cy a s.heap M H locs) (hl : lv_has ls 2 [(0, .ref (a this))]) : W p l e ({ frames := 2, cells := 0, slots := 0, locals := 45 } : Room) s m args below meth c H locs 0 0 (MQ below (QUi dC dI cy a o M) args s 0 0 (AU a)) (F0 m 22 ls [.int s0]) := by
  have hx := X.1.1
  have hb := X.1.2.1
  have hown := X.1.2.2.2.1
  have hts := X.1.2.2.2.2
  rw [f_X3_mayWork_L22] at hf
  obtain ⟨hz1, hf⟩ := zk_some hf
  obtain rfl := Option.some.inj hf
  exact mw_zret X hG (zk_nar hz1) dX3_mayWork_22
set_option maxHeartbeats 4000000 in
set_option maxRecDepth 100000 in
theorem c_X3_mayWork (l : Launch) (dC : Nat → ClassId) (dI : Nat → Nat → Nat) (cy : Nat → ClassId) (a : Nat → Nat) (ha : injU a) (this : Nat) (hT : K3 this) (M : Mem) (v1 : Int32) {o : Int32} (hf : f_X3_mayWork M this v1 = some o) : Met l yX3_mayWork (wsU yX3_mayWork cX3_mayWork 2 (some .boolean)) ({ frames := 2, cells := 0, slots := 0, locals := 45 } : Room) (PU dC dI cy a [.ref (a this), .int v1] M) (QUi dC dI cy a o M) 0 0 (AU a) := by
  refine mw_met (by decide) ha (Nat.le_of_ble_eq_true rfl) ?_
  intro p e s m below meth c ls X hG hl
  have hl : lv_has ls 2 [(0, .ref (a this)), (1, .int v1)] := hl
  have X : XU dC dI cy a p s m c [.ref (a this), .int v1].toArray meth cX3_mayWork 2 RX3 (some .boolean) := X
  have hx := X.1.1
  have hb := X.1.2.1
  have hown := X.1.2.2.2.1
  have hts := X.1.2.2.2.2
  rw [f_X3_mayWork] at hf
  refine lv_aload_n hx hb dX3_mayWork_0 rfl (lv_at hl 0 rfl) ?_
  refine gf_X3_20 X hG hT dX3_mayWork_1 ?_
  refine lv_iload_n hx hb dX3_mayWork_4 rfl (lv_at hl 1 rfl) ?_
  obtain ⟨hi1, hf⟩ := ck_some hf
  refine mw_aald0 X hG hT.2.2.1 hi1 dX3_mayWork_5 ?_
  obtain ⟨x2, hr3, hf⟩ := bd_some hf
  refine mw_callVi (rest := []) X hG (hT.2.2.2.2.2.2 _ (vin_lt hi1)).1 rfl (c_X2_firstTime l dC dI cy a X.2.2.1 (this + 9 + 4 + 4 * v1.toNatClampNeg) (hT.2.2.2.2.2.2 _ (vin_lt hi1)) M  hr3) (mw_cwV X 0 g_X3_68 hd_X2_firstTime ⟨rfl, rfl⟩ ⟨Nat.le_of_ble_eq_true rfl, Nat.le_of_ble_eq_true rfl⟩) rfl hl.1 rfl (Nat.le_of_ble_eq_true rfl) dX3_mayWork_6 (fun H locs hG => ?_)
  refine lv_aload_n hx hb dX3_mayWork_9 rfl (lv_at hl 0 rfl) ?_
  refine lv_iload_n hx hb dX3_mayWork_10 rfl (lv_at hl 1 rfl) ?_
  obtain ⟨x4, hr5, hf⟩ := bd_some hf
  refine mw_callVi (rest := [.int x2]) X hG hT.1 rfl (c_X3_safeOf l dC dI cy a X.2.2.1 this hT M v1 hr5) (mw_cwV X 1 g_X3_83 hd_X3_safeOf ⟨rfl, rfl⟩ ⟨Nat.le_of_ble_eq_true rfl, Nat.le_of_ble_eq_true rfl⟩) rfl hl.1 rfl (Nat.le_of_ble_eq_true rfl) dX3_mayWork_11 (fun H locs hG => ?_)
  refine lv_icmp_ge (tgt := 21) hx hb dX3_mayWork_14 (by decide) (fun c6 => ?_) (fun c6 => ?_)
  · have hf := itep c6 hf
    refine lv_iconst (v := 0) hx hb dX3_mayWork_21 (by decide) ?_
    exact w_X3_mayWork_L22 X hT hf hG (lv_sub hl [0] rfl)
  · have hf := iten c6 hf
    refine lv_iconst (v := 1) hx hb dX3_mayWork_17 (by decide) ?_
    refine lv_goto (tgt := 22) hx hb dX3_mayWork_18 (by decide) ?_
    exact w_X3_mayWork_L22 X hT hf hG (lv_sub hl [0] rfl)
/-! X3_partsThatMay -/
set_option maxHeartbeats 4000000 in
set_option maxRecDepth 100000 in
theorem w_X3_partsThatMay_L26 {l : Launch} {dC : Nat → ClassId} {dI : Nat → Nat → Nat} {cy : Nat → ClassId} {a : Nat → Nat} {p : Program} {e : Env} {s : State} {m : MethodId} {args : Array Value} {below : List Frame} {meth : Method} {c : Code} (X : XU dC dI cy a p s m c args meth cX3_partsThatMay 3 RX3 (some .int)) {M : Mem} {this : Nat} (hT : K3 this) {v1 : Int32} {v2 : Int32} {o : Int32} {k4 : Int32 → Int32 → Option Int32} (hk4 : ∀ (v1 : Int32) (v2 : Int32) (H : Heap) (locs : List Loc) (ls : Array Slot), k4 v1 v2 = some o → GU dC dI cy a s.heap M H locs → lv_has ls 3 [(0, .ref (a this)), (1, .int v1), (2, .int v2)] → W p l e ({ frames := 3, cells := 0, slots := 0, locals := 66 } : Room) s m args below meth c H locs 0 0 (MQ below (QUi dC dI cy a o M) args s 0 0 (AU a)) (F0 m 4 ls [])) {H : Heap} {locs : List Loc} {ls : Array Slot} (hf : f_X3_partsThatMay_L26 k4 M this v1 v2 = some o) (hG : GU dC dI cy a s.heap M H locs) (hl : lv_has ls 3 [(0, .ref (a this)), (1, .int v1), (2, .int v2)]) : W p l e ({ frames := 3, cells := 0, slots := 0, locals := 66 } : Room) s m args below meth c H locs 0 0 (MQ below (QUi dC dI cy a o M) args s 0 0 (AU a)) (F0 m 26 ls []) := by
  have hx := X.1.1
  have hb := X.1.2.1
  have hown := X.1.2.2.2.1
  have hts := X.1.2.2.2.2
  rw [f_X3_partsThatMay_L26] at hf
  obtain ⟨x1, ex1⟩ : ∃ y : Int32, y = v2 + (1 : Int32) := ⟨_, rfl⟩
  have hf := nm_of ex1 hf
  refine lv_iinc (v := x1) (lv' := [(2, .int x1), (0, .ref (a this)), (1, .int v1)]) hx hb dX3_partsThatMay_26 hl (k := 2) rfl (by rw [ex1]; rfl) (by decide) rfl (fun ls hl => ?_)
  refine lv_goto (tgt := 4) hx hb dX3_partsThatMay_29 (by decide) ?_
  exact hk4 _ _ _ _ _ hf hG (lv_sub hl [1, 2, 0] rfl)
set_option maxHeartbeats 4000000 in
set_option maxRecDepth 100000 in
theorem w_X3_partsThatMay_L4 {l : Launch} {dC : Nat → ClassId} {dI : Nat → Nat → Nat} {cy : Nat → ClassId} {a : Nat → Nat} {p : Program} {e : Env} {s : State} {m : MethodId} {args : Array Value} {below : List Frame} {meth : Method} {c : Code} (X : XU dC dI cy a p s m c args meth cX3_partsThatMay 3 RX3 (some .int)) {M : Mem} {this : Nat} (hT : K3 this) {o : Int32} : ∀ (n : Nat) (v1 : Int32) (v2 : Int32) (H : Heap) (locs : List Loc) (ls : Array Slot), f_X3_partsThatMay_L4 M this n v1 v2 = some o → GU dC dI cy a s.heap M H locs → lv_has ls 3 [(0, .ref (a this)), (1, .int v1), (2, .int v2)] → W p l e ({ frames := 3, cells := 0, slots := 0, locals := 66 } : Room) s m args below meth c H locs 0 0 (MQ below (QUi dC dI cy a o M) args s 0 0 (AU a)) (F0 m 4 ls []) := by
  have hx := X.1.1
  have hb := X.1.2.1
  have hown := X.1.2.2.2.1
  have hts := X.1.2.2.2.2
  intro n
  induction n with
  | zero => intro v1 v2 H locs ls hf; cases hf
  | succ n ih =>
    intro v1 v2 H locs ls hf hG hl
    rw [f_X3_partsThatMay_L4] at hf
    refine lv_iload_n hx hb dX3_partsThatMay_4 rfl (lv_at hl 2 rfl) ?_
    refine lv_aload_n hx hb dX3_partsThatMay_5 rfl (lv_at hl 0 rfl) ?_
    refine gf_X3_43 X hG hT dX3_partsThatMay_6 ?_
    refine lv_icmp_ge (tgt := 32) hx hb dX3_partsThatMay_9 (by decide) (fun c1 => ?_) (fun c1 => ?_)
    · have hf := itep c1 hf
      refine lv_iload_n hx hb dX3_partsThatMay_32 rfl (lv_at hl 1 rfl) ?_
      obtain rfl := Option.some.inj hf
      exact mw_iret X hG dX3_partsThatMay_33
    · have hf := iten c1 hf
      refine lv_aload_n hx hb dX3_partsThatMay_12 rfl (lv_at hl 0 rfl) ?_
      refine lv_iload_n hx hb dX3_partsThatMay_13 rfl (lv_at hl 2 rfl) ?_
      obtain ⟨x2, hr3, hf⟩ := bd_some hf
      refine mw_callVi (rest := []) X hG hT.1 rfl (c_X3_mayWork l dC dI cy a X.2.2.1 this hT M v2 hr3) (mw_cwV X 1 g_X3_86 hd_X3_mayWork ⟨rfl, rfl⟩ ⟨Nat.le_of_ble_eq_true rfl, Nat.le_of_ble_eq_true rfl⟩) rfl hl.1 rfl (Nat.le_of_ble_eq_true rfl) dX3_partsThatMay_14 (fun H locs hG => ?_)
      refine lv_if_eq (tgt := 26) hx hb dX3_partsThatMay_17 (by decide) (fun c4 => ?_) (fun c4 => ?_)
      · have hf := itep c4 hf
        exact w_X3_partsThatMay_L26 X hT ih hf hG (lv_sub hl [0, 1, 2] rfl)
      · have hf := iten c4 hf
        refine lv_iload_n hx hb dX3_partsThatMay_20 rfl (lv_at hl 1 rfl) ?_
        refine lv_iconst (v := 1) hx hb dX3_partsThatMay_21 (by decide) ?_
        refine lv_iload_n hx hb dX3_partsThatMay_22 rfl (lv_at hl 2 rfl) ?_
        refine lv_ishl hx hb dX3_partsThatMay_23 ?_
        refine lv_ior hx hb dX3_partsThatMay_24 ?_
        refine lv_topi (fun x5 ex5 => ?_)
        have hf := nm_of ex5 hf
        refine lv_istore_n (lv' := [(1, .int x5), (0, .ref (a this)), (2, .int v2)]) hx hb dX3_partsThatMay_25 rfl hl (by decide) rfl (fun ls hl => ?_)
        exact w_X3_partsThatMay_L26 X hT ih hf hG (lv_sub hl [1, 0, 2] rfl)
set_option maxHeartbeats 4000000 in
set_option maxRecDepth 100000 in
theorem c_X3_partsThatMay (l : Launch) (dC : Nat → ClassId) (dI : Nat → Nat → Nat) (cy : Nat → ClassId) (a : Nat → Nat) (ha : injU a) (this : Nat) (hT : K3 this) (M : Mem) {o : Int32} (hf : f_X3_partsThatMay M this = some o) : Met l yX3_partsThatMay (wsU yX3_partsThatMay cX3_partsThatMay 3 (some .int)) ({ frames := 3, cells := 0, slots := 0, locals := 66 } : Room) (PU dC dI cy a [.ref (a this)] M) (QUi dC dI cy a o M) 0 0 (AU a) := by
  refine mw_met (by decide) ha (Nat.le_of_ble_eq_true rfl) ?_
  intro p e s m below meth c ls X hG hl
  have hl : lv_has ls 3 [(0, .ref (a this))] := hl
  have X : XU dC dI cy a p s m c [.ref (a this)].toArray meth cX3_partsThatMay 3 RX3 (some .int) := X
  have hx := X.1.1
  have hb := X.1.2.1
  have hown := X.1.2.2.2.1
  have hts := X.1.2.2.2.2
  rw [f_X3_partsThatMay] at hf
  refine lv_iconst (v := 0) hx hb dX3_partsThatMay_0 (by decide) ?_
  refine lv_istore_n (lv' := [(1, .int (0 : Int32)), (0, .ref (a this))]) hx hb dX3_partsThatMay_1 rfl hl (by decide) rfl (fun ls hl => ?_)
  refine lv_iconst (v := 0) hx hb dX3_partsThatMay_2 (by decide) ?_
  refine lv_istore_n (lv' := [(2, .int (0 : Int32)), (1, .int (0 : Int32)), (0, .ref (a this))]) hx hb dX3_partsThatMay_3 rfl hl (by decide) rfl (fun ls hl => ?_)
  exact w_X3_partsThatMay_L4 X hT 1000 _ _ _ _ _ hf hG (lv_sub hl [2, 1, 0] rfl)
/-! X3_channelWaitedFor -/
set_option maxHeartbeats 4000000 in
set_option maxRecDepth 100000 in
theorem w_X3_channelWaitedFor_L47 {l : Launch} {dC : Nat → ClassId} {dI : Nat → Nat → Nat} {cy : Nat → ClassId} {a : Nat → Nat} {p : Program} {e : Env} {s : State} {m : MethodId} {args : Array Value} {below : List Frame} {meth : Method} {c : Code} (X : XU dC dI cy a p s m c args meth cX3_channelWaitedFor 3 RX3 (some .int)) {M : Mem} {this : Nat} (hT : K3 this) {o : Int32} {H : Heap} {locs : List Loc} {ls : Array Slot} (hf : f_X3_channelWaitedFor_L47 M this = some o) (hG : GU dC dI cy a s.heap M H locs) (hl : lv_has ls 3 [(0, .ref (a this))]) : W p l e ({ frames := 1, cells := 0, slots := 0, locals := 23 } : Room) s m args below meth c H locs 0 0 (MQ below (QUi dC dI cy a o M) args s 0 0 (AU a)) (F0 m 47 ls []) := by
  have hx := X.1.1
  have hb := X.1.2.1
  have hown := X.1.2.2.2.1
  have hts := X.1.2.2.2.2
  rw [f_X3_channelWaitedFor_L47] at hf
  refine lv_iconst (v := -1) hx hb dX3_channelWaitedFor_47 (by decide) ?_
  obtain rfl := Option.some.inj hf
  exact mw_iret X hG dX3_channelWaitedFor_48
set_option maxHeartbeats 4000000 in
set_option maxRecDepth 100000 in
theorem c_X3_channelWaitedFor (l : Launch) (dC : Nat → ClassId) (dI : Nat → Nat → Nat) (cy : Nat → ClassId) (a : Nat → Nat) (ha : injU a) (this : Nat) (hT : K3 this) (M : Mem) (v1 : Int32) {o : Int32} (hf : f_X3_channelWaitedFor M this v1 = some o) : Met l yX3_channelWaitedFor (wsU yX3_channelWaitedFor cX3_channelWaitedFor 3 (some .int)) ({ frames := 1, cells := 0, slots := 0, locals := 23 } : Room) (PU dC dI cy a [.ref (a this), .int v1] M) (QUi dC dI cy a o M) 0 0 (AU a) := by
  refine mw_met (by decide) ha (Nat.le_of_ble_eq_true rfl) ?_
  intro p e s m below meth c ls X hG hl
  have hl : lv_has ls 3 [(0, .ref (a this)), (1, .int v1)] := hl
  have X : XU dC dI cy a p s m c [.ref (a this), .int v1].toArray meth cX3_channelWaitedFor 3 RX3 (some .int) := X
  have hx := X.1.1
  have hb := X.1.2.1
  have hown := X.1.2.2.2.1
  have hts := X.1.2.2.2.2
  rw [f_X3_channelWaitedFor] at hf
  refine lv_aload_n hx hb dX3_channelWaitedFor_0 rfl (lv_at hl 0 rfl) ?_
  refine gf_X3_12 X hG hT dX3_channelWaitedFor_1 ?_
  refine lv_iload_n hx hb dX3_channelWaitedFor_4 rfl (lv_at hl 1 rfl) ?_
  obtain ⟨x1, hr2, hf⟩ := bd_some hf
  refine mw_callVi (rest := []) X hG hT.2.1.1 rfl (c_X0_ofLeastClockTo l dC dI cy a X.2.2.1 (this + 1) hT.2.1 M v1 hr2) (mw_cwV X 1 g_X3_75 hd_X0_ofLeastClockTo ⟨rfl, rfl⟩ ⟨Nat.le_of_ble_eq_true rfl, Nat.le_of_ble_eq_true rfl⟩) rfl hl.1 rfl (Nat.le_of_ble_eq_true rfl) dX3_channelWaitedFor_5 (fun H locs hG => ?_)
  refine lv_istore_n (lv' := [(2, .int x1), (0, .ref (a this)), (1, .int v1)]) hx hb dX3_channelWaitedFor_8 rfl hl (by decide) rfl (fun ls hl => ?_)
  refine lv_iload_n hx hb dX3_channelWaitedFor_9 rfl (lv_at hl 0 rfl) ?_
  refine lv_iconst (v := -1) hx hb dX3_channelWaitedFor_10 (by decide) ?_
  refine lv_icmp_eq (tgt := 47) hx hb dX3_channelWaitedFor_11 (by decide) (fun c3 => ?_) (fun c3 => ?_)
  · have hf := itep c3 hf
    exact w_X3_channelWaitedFor_L47 X hT hf hG (lv_sub hl [1] rfl)
  · have hf := iten c3 hf
    refine lv_aload_n hx hb dX3_channelWaitedFor_14 rfl (lv_at hl 1 rfl) ?_
    refine gf_X3_20 X hG hT dX3_channelWaitedFor_15 ?_
    refine lv_iload_n hx hb dX3_channelWaitedFor_18 rfl (lv_at hl 2 rfl) ?_
    obtain ⟨hi4, hf⟩ := ck_some hf
    refine mw_aald0 X hG hT.2.2.1 hi4 dX3_channelWaitedFor_19 ?_
    refine gf_X3_42 X hG (hT.2.2.2.2.2.2 _ (vin_lt hi4)) dX3_channelWaitedFor_20 ?_
    refine lv_if_eq (tgt := 47) hx hb dX3_channelWaitedFor_23 (by decide) (fun c5 => ?_) (fun c5 => ?_)
    · have hf := itep c5 hf
      exact w_X3_channelWaitedFor_L47 X hT hf hG (lv_sub hl [1] rfl)
    · have hf := iten c5 hf
      refine lv_aload_n hx hb dX3_channelWaitedFor_26 rfl (lv_at hl 1 rfl) ?_
      refine gf_X3_20 X hG hT dX3_channelWaitedFor_27 ?_
      refine lv_iload_n hx hb dX3_channelWaitedFor_30 rfl (lv_at hl 2 rfl) ?_
      obtain ⟨hi6, hf⟩ := ck_some hf
      refine mw_aald0 X hG hT.2.2.1 hi6 dX3_channelWaitedFor_31 ?_
      obtain ⟨x7, hr8, hf⟩ := bd_some hf
      refine mw_callVi (rest := []) X hG (hT.2.2.2.2.2.2 _ (vin_lt hi6)).1 rfl (c_X2_firstTime l dC dI cy a X.2.2.1 (this + 9 + 4 + 4 * v1.toNatClampNeg) (hT.2.2.2.2.2.2 _ (vin_lt hi6)) M  hr8) (mw_cwV X 0 g_X3_68 hd_X2_firstTime ⟨rfl, rfl⟩ ⟨Nat.le_of_ble_eq_true rfl, Nat.le_of_ble_eq_true rfl⟩) rfl hl.1 rfl (Nat.le_of_ble_eq_true rfl) dX3_channelWaitedFor_32 (fun H locs hG => ?_)
      refine lv_aload_n hx hb dX3_channelWaitedFor_35 rfl (lv_at hl 1 rfl) ?_
      refine gf_X3_12 X hG hT dX3_channelWaitedFor_36 ?_
      refine gf_X3_80 X hG hT.2.1 dX3_channelWaitedFor_39 ?_
      refine lv_iload_n hx hb dX3_channelWaitedFor_42 rfl (lv_at hl 0 rfl) ?_
      obtain ⟨hi9, hf⟩ := ck_some hf
      refine mw_iald X hG hT.2.1.2.2.2.2.2.1 hi9 dX3_channelWaitedFor_43 ?_
      refine lv_icmp_ge (tgt := 49) hx hb dX3_channelWaitedFor_44 (by decide) (fun c10 => ?_) (fun c10 => ?_)
      · have hf := itep c10 hf
        refine lv_iload_n hx hb dX3_channelWaitedFor_49 rfl (lv_at hl 0 rfl) ?_
        obtain rfl := Option.some.inj hf
        exact mw_iret X hG dX3_channelWaitedFor_50
      · have hf := iten c10 hf
        exact w_X3_channelWaitedFor_L47 X hT hf hG (lv_sub hl [1] rfl)
/-! X3_hasWorkedAtOrBehind -/
set_option maxHeartbeats 4000000 in
set_option maxRecDepth 100000 in
theorem w_X3_hasWorkedAtOrBehind_L24 {l : Launch} {dC : Nat → ClassId} {dI : Nat → Nat → Nat} {cy : Nat → ClassId} {a : Nat → Nat} {p : Program} {e : Env} {s : State} {m : MethodId} {args : Array Value} {below : List Frame} {meth : Method} {c : Code} (X : XU dC dI cy a p s m c args meth cX3_hasWorkedAtOrBehind 3 RX3 (some .boolean)) {M : Mem} {this : Nat} (hT : K3 this) {s0 : Int32} {o : Int32} {H : Heap} {locs : List Loc} {ls : Array Slot} (hf : f_X3_hasWorkedAtOrBehind_L24 M this s0 = some o) (hG : GU dC dI cy a s.heap M H locs) (hl : lv_has ls 3 [(0, .ref (a this))]) : W p l e ({ frames := 0, cells := 0, slots := 0, locals := 0 } : Room) s m args below meth c H locs 0 0 (MQ below (QUi dC dI cy a o M) args s 0 0 (AU a)) (F0 m 24 ls [.int s0]) := by
  have hx := X.1.1
  have hb := X.1.2.1
  have hown := X.1.2.2.2.1
  have hts := X.1.2.2.2.2
  rw [f_X3_hasWorkedAtOrBehind_L24] at hf
  obtain ⟨hz1, hf⟩ := zk_some hf
  obtain rfl := Option.some.inj hf
  exact mw_zret X hG (zk_nar hz1) dX3_hasWorkedAtOrBehind_24
set_option maxHeartbeats 4000000 in
set_option maxRecDepth 100000 in
theorem w_X3_hasWorkedAtOrBehind_L23 {l : Launch} {dC : Nat → ClassId} {dI : Nat → Nat → Nat} {cy : Nat → ClassId} {a : Nat → Nat} {p : Program} {e : Env} {s : State} {m : MethodId} {args : Array Value} {below : List Frame} {meth : Method} {c : Code} (X : XU dC dI cy a p s m c args meth cX3_hasWorkedAtOrBehind 3 RX3 (some .boolean)) {M : Mem} {this : Nat} (hT : K3 this) {o : Int32} {H : Heap} {locs : List Loc} {ls : Array Slot} (hf : f_X3_hasWorkedAtOrBehind_L23 M this = some o) (hG : GU dC dI cy a s.heap M H locs) (hl : lv_has ls 3 [(0, .ref (a this))]) : W p l e ({ frames := 0, cells := 0, slots := 0, locals := 0 } : Room) s m args below meth c H locs 0 0 (MQ below (QUi dC dI cy a o M) args s 0 0 (AU a)) (F0 m 23 ls []) := by
  have hx := X.1.1
  have hb := X.1.2.1
  have hown := X.1.2.2.2.1
  have hts := X.1.2.2.2.2
  rw [f_X3_hasWorkedAtOrBehind_L23] at hf
  refine lv_iconst (v := 0) hx hb dX3_hasWorkedAtOrBehind_23 (by decide) ?_
  exact w_X3_hasWorkedAtOrBehind_L24 X hT hf hG (lv_sub hl [0] rfl)
set_option maxHeartbeats 4000000 in
set_option maxRecDepth 100000 in
theorem c_X3_hasWorkedAtOrBehind (l : Launch) (dC : Nat → ClassId) (dI : Nat → Nat → Nat) (cy : Nat → ClassId) (a : Nat → Nat) (ha : injU a) (this : Nat) (hT : K3 this) (M : Mem) (v1 : Int32) (v2 : Int32) {o : Int32} (hf : f_X3_hasWorkedAtOrBehind M this v1 v2 = some o) : Met l yX3_hasWorkedAtOrBehind (wsU yX3_hasWorkedAtOrBehind cX3_hasWorkedAtOrBehind 3 (some .boolean)) ({ frames := 0, cells := 0, slots := 0, locals := 0 } : Room) (PU dC dI cy a [.ref (a this), .int v1, .int v2] M) (QUi dC dI cy a o M) 0 0 (AU a) := by
  refine mw_met (by decide) ha (Nat.le_of_ble_eq_true rfl) ?_
  intro p e s m below meth c ls X hG hl
  have hl : lv_has ls 3 [(0, .ref (a this)), (1, .int v1), (2, .int v2)] := hl
  have X : XU dC dI cy a p s m c [.ref (a this), .int v1, .int v2].toArray meth cX3_hasWorkedAtOrBehind 3 RX3 (some .boolean) := X
  have hx := X.1.1
  have hb := X.1.2.1
  have hown := X.1.2.2.2.1
  have hts := X.1.2.2.2.2
  rw [f_X3_hasWorkedAtOrBehind] at hf
  refine lv_aload_n hx hb dX3_hasWorkedAtOrBehind_0 rfl (lv_at hl 0 rfl) ?_
  refine gf_X3_24 X hG hT dX3_hasWorkedAtOrBehind_1 ?_
  refine lv_iload_n hx hb dX3_hasWorkedAtOrBehind_4 rfl (lv_at hl 1 rfl) ?_
  obtain ⟨hi1, hf⟩ := ck_some hf
  refine mw_iald X hG hT.2.2.2.1 hi1 dX3_hasWorkedAtOrBehind_5 ?_
  refine lv_if_le (tgt := 23) hx hb dX3_hasWorkedAtOrBehind_6 (by decide) (fun c2 => ?_) (fun c2 => ?_)
  · have hf := itep c2 hf
    exact w_X3_hasWorkedAtOrBehind_L23 X hT hf hG (lv_sub hl [0] rfl)
  · have hf := iten c2 hf
    refine lv_aload_n hx hb dX3_hasWorkedAtOrBehind_9 rfl (lv_at hl 0 rfl) ?_
    refine gf_X3_31 X hG hT dX3_hasWorkedAtOrBehind_10 ?_
    refine lv_iload_n hx hb dX3_hasWorkedAtOrBehind_13 rfl (lv_at hl 1 rfl) ?_
    obtain ⟨hi3, hf⟩ := ck_some hf
    refine mw_iald X hG hT.2.2.2.2.2.1 hi3 dX3_hasWorkedAtOrBehind_14 ?_
    refine lv_iload_n hx hb dX3_hasWorkedAtOrBehind_15 rfl (lv_at hl 2 rfl) ?_
    refine lv_icmp_lt (tgt := 23) hx hb dX3_hasWorkedAtOrBehind_16 (by decide) (fun c4 => ?_) (fun c4 => ?_)
    · have hf := itep c4 hf
      exact w_X3_hasWorkedAtOrBehind_L23 X hT hf hG (lv_sub hl [0] rfl)
    · have hf := iten c4 hf
      refine lv_iconst (v := 1) hx hb dX3_hasWorkedAtOrBehind_19 (by decide) ?_
      refine lv_goto (tgt := 24) hx hb dX3_hasWorkedAtOrBehind_20 (by decide) ?_
      exact w_X3_hasWorkedAtOrBehind_L24 X hT hf hG (lv_sub hl [0] rfl)
/-! X3_tellByHand -/
set_option maxHeartbeats 4000000 in
set_option maxRecDepth 100000 in
theorem c_X3_tellByHand (l : Launch) (dC : Nat → ClassId) (dI : Nat → Nat → Nat) (cy : Nat → ClassId) (a : Nat → Nat) (ha : injU a) (this : Nat) (hT : K3 this) (M : Mem) (v1 : Int32) (v2 : Int32) (v3 : Int32) {o : (Int32 × Mem)} (hf : f_X3_tellByHand M this v1 v2 v3 = some o) : Met l yX3_tellByHand (wsU yX3_tellByHand cX3_tellByHand 4 (some .int)) ({ frames := 2, cells := 0, slots := 0, locals := 47 } : Room) (PU dC dI cy a [.ref (a this), .int v1, .int v2, .int v3] M) (QUi dC dI cy a o.1 o.2) 0 0 (AU a) := by
  refine mw_met (by decide) ha (Nat.le_of_ble_eq_true rfl) ?_
  intro p e s m below meth c ls X hG hl
  have hl : lv_has ls 4 [(0, .ref (a this)), (1, .int v1), (2, .int v2), (3, .int v3)] := hl
  have X : XU dC dI cy a p s m c [.ref (a this), .int v1, .int v2, .int v3].toArray meth cX3_tellByHand 4 RX3 (some .int) := X
  have hx := X.1.1
  have hb := X.1.2.1
  have hown := X.1.2.2.2.1
  have hts := X.1.2.2.2.2
  rw [f_X3_tellByHand] at hf
  refine lv_aload_n hx hb dX3_tellByHand_0 rfl (lv_at hl 0 rfl) ?_
  refine gf_X3_20 X hG hT dX3_tellByHand_1 ?_
  refine lv_iload_n hx hb dX3_tellByHand_4 rfl (lv_at hl 1 rfl) ?_
  obtain ⟨hi1, hf⟩ := ck_some hf
  refine mw_aald0 X hG hT.2.2.1 hi1 dX3_tellByHand_5 ?_
  refine lv_iload_n hx hb dX3_tellByHand_6 rfl (lv_at hl 2 rfl) ?_
  refine lv_iload_n hx hb dX3_tellByHand_7 rfl (lv_at hl 3 rfl) ?_
  refine lv_iconst (v := -1) hx hb dX3_tellByHand_8 (by decide) ?_
  obtain ⟨M2, hr4, hf⟩ := bd_some hf
  refine mw_callVv (rest := []) X hG (hT.2.2.2.2.2.2 _ (vin_lt hi1)).1 rfl (c_X2_add l dC dI cy a X.2.2.1 (this + 9 + 4 + 4 * v1.toNatClampNeg) (hT.2.2.2.2.2.2 _ (vin_lt hi1)) M v2 v3 (-1 : Int32) hr4) (mw_cwV X 3 g_X3_90 hd_X2_add ⟨rfl, rfl⟩ ⟨Nat.le_of_ble_eq_true rfl, Nat.le_of_ble_eq_true rfl⟩) rfl hl.1 rfl (Nat.le_of_ble_eq_true rfl) dX3_tellByHand_9 (fun H locs hG => ?_)
  refine lv_aload_n hx hb dX3_tellByHand_12 rfl (lv_at hl 0 rfl) ?_
  refine lv_dup hx hb dX3_tellByHand_13 rfl ?_
  refine gf_X3_58 X hG hT dX3_tellByHand_14 ?_
  refine lv_iconst (v := 1) hx hb dX3_tellByHand_17 (by decide) ?_
  refine lv_iadd hx hb dX3_tellByHand_18 ?_
  refine pf_X3_58 X hG hT dX3_tellByHand_19 (fun M5 H locs eM5 hG => ?_)
  have hf := nm_of eM5 hf
  refine lv_aload_n hx hb dX3_tellByHand_22 rfl (lv_at hl 0 rfl) ?_
  refine gf_X3_20 X hG hT dX3_tellByHand_23 ?_
  refine lv_iload_n hx hb dX3_tellByHand_26 rfl (lv_at hl 1 rfl) ?_
  obtain ⟨hi6, hf⟩ := ck_some hf
  refine mw_aald0 X hG hT.2.2.1 hi6 dX3_tellByHand_27 ?_
  refine gf_X3_42 X hG (hT.2.2.2.2.2.2 _ (vin_lt hi6)) dX3_tellByHand_28 ?_
  obtain rfl := Option.some.inj hf
  exact mw_iret X hG dX3_tellByHand_31
/-! X3_sendLetter -/
set_option maxHeartbeats 4000000 in
set_option maxRecDepth 100000 in
theorem w_X3_sendLetter_L19 {l : Launch} {dC : Nat → ClassId} {dI : Nat → Nat → Nat} {cy : Nat → ClassId} {a : Nat → Nat} {p : Program} {e : Env} {s : State} {m : MethodId} {args : Array Value} {below : List Frame} {meth : Method} {c : Code} (X : XU dC dI cy a p s m c args meth cX3_sendLetter 7 RX3 none) {M : Mem} {this : Nat} (hT : K3 this) {o : Mem} {H : Heap} {locs : List Loc} {ls : Array Slot} (hf : f_X3_sendLetter_L19 M this = some o) (hG : GU dC dI cy a s.heap M H locs) (hl : lv_has ls 7 [(0, .ref (a this))]) : W p l e ({ frames := 2, cells := 0, slots := 0, locals := 47 } : Room) s m args below meth c H locs 0 0 (MQ below (QUv dC dI cy a o) args s 0 0 (AU a)) (F0 m 19 ls []) := by
  have hx := X.1.1
  have hb := X.1.2.1
  have hown := X.1.2.2.2.1
  have hts := X.1.2.2.2.2
  rw [f_X3_sendLetter_L19] at hf
  obtain rfl := Option.some.inj hf
  exact mw_vret X hG dX3_sendLetter_19
set_option maxHeartbeats 4000000 in
set_option maxRecDepth 100000 in
theorem c_X3_sendLetter (l : Launch) (dC : Nat → ClassId) (dI : Nat → Nat → Nat) (cy : Nat → ClassId) (a : Nat → Nat) (ha : injU a) (this : Nat) (hT : K3 this) (M : Mem) (v1 : Int32) (v2 : Int32) (v3 : Int32) {o : Mem} (hf : f_X3_sendLetter M this v1 v2 v3 = some o) : Met l yX3_sendLetter (wsU yX3_sendLetter cX3_sendLetter 7 none) ({ frames := 2, cells := 0, slots := 0, locals := 47 } : Room) (PU dC dI cy a [.ref (a this), .int v1, .int v2, .int v3] M) (QUv dC dI cy a o) 0 0 (AU a) := by
  refine mw_met (by decide) ha (Nat.le_of_ble_eq_true rfl) ?_
  intro p e s m below meth c ls X hG hl
  have hl : lv_has ls 7 [(0, .ref (a this)), (1, .int v1), (2, .int v2), (3, .int v3)] := hl
  have X : XU dC dI cy a p s m c [.ref (a this), .int v1, .int v2, .int v3].toArray meth cX3_sendLetter 7 RX3 none := X
  have hx := X.1.1
  have hb := X.1.2.1
  have hown := X.1.2.2.2.1
  have hts := X.1.2.2.2.2
  rw [f_X3_sendLetter] at hf
  refine lv_aload_n hx hb dX3_sendLetter_0 rfl (lv_at hl 0 rfl) ?_
  refine gf_X3_12 X hG hT dX3_sendLetter_1 ?_
  refine lv_iload_n hx hb dX3_sendLetter_4 rfl (lv_at hl 1 rfl) ?_
  obtain ⟨x1, hr2, hf⟩ := bd_some hf
  refine mw_callVi (rest := []) X hG hT.2.1.1 rfl (c_X0_countFrom l dC dI cy a X.2.2.1 (this + 1) hT.2.1 M v1 hr2) (mw_cwV X 1 g_X3_104 hd_X0_countFrom ⟨rfl, rfl⟩ ⟨Nat.le_of_ble_eq_true rfl, Nat.le_of_ble_eq_true rfl⟩) rfl hl.1 rfl (Nat.le_of_ble_eq_true rfl) dX3_sendLetter_5 (fun H locs hG => ?_)
  refine lv_istore (lv' := [(4, .int x1), (0, .ref (a this)), (1, .int v1), (2, .int v2), (3, .int v3)]) hx hb dX3_sendLetter_8 hl (by decide) rfl (fun ls hl => ?_)
  refine lv_iload_n hx hb dX3_sendLetter_10 rfl (lv_at hl 4 rfl) ?_
  refine lv_if_le (tgt := 19) hx hb dX3_sendLetter_11 (by decide) (fun c3 => ?_) (fun c3 => ?_)
  · have hf := itep c3 hf
    exact w_X3_sendLetter_L19 X hT hf hG (lv_sub hl [1] rfl)
  · have hf := iten c3 hf
    refine lv_iload hx hb dX3_sendLetter_14 (lv_at hl 0 rfl) ?_
    refine lv_if_ne (tgt := 20) hx hb dX3_sendLetter_16 (by decide) (fun c4 => ?_) (fun c4 => ?_)
    · have hf := iten c4 hf
      refine lv_aload_n hx hb dX3_sendLetter_20 rfl (lv_at hl 1 rfl) ?_
      refine gf_X3_12 X hG hT dX3_sendLetter_21 ?_
      refine lv_iload_n hx hb dX3_sendLetter_24 rfl (lv_at hl 2 rfl) ?_
      refine lv_iload_n hx hb dX3_sendLetter_25 rfl (lv_at hl 4 rfl) ?_
      refine lv_iload hx hb dX3_sendLetter_26 (lv_at hl 0 rfl) ?_
      obtain ⟨hz5, hf⟩ := nz_some hf
      refine lv_irem hx hb dX3_sendLetter_28 hz5 ?_
      obtain ⟨x6, hr7, hf⟩ := bd_some hf
      refine mw_callVi (rest := []) X hG hT.2.1.1 rfl (c_X0_atPlaceFrom l dC dI cy a X.2.2.1 (this + 1) hT.2.1 M v1 (jrem v3 x1) hr7) (mw_cwV X 2 g_X3_107 hd_X0_atPlaceFrom ⟨rfl, rfl⟩ ⟨Nat.le_of_ble_eq_true rfl, Nat.le_of_ble_eq_true rfl⟩) rfl hl.1 rfl (Nat.le_of_ble_eq_true rfl) dX3_sendLetter_29 (fun H locs hG => ?_)
      refine lv_istore (lv' := [(5, .int x6), (4, .int x1), (0, .ref (a this)), (1, .int v1), (2, .int v2), (3, .int v3)]) hx hb dX3_sendLetter_32 hl (by decide) rfl (fun ls hl => ?_)
      refine lv_iload hx hb dX3_sendLetter_34 (lv_at hl 0 rfl) ?_
      refine lv_iconst (v := -1) hx hb dX3_sendLetter_36 (by decide) ?_
      refine lv_icmp_ne (tgt := 41) hx hb dX3_sendLetter_37 (by decide) (fun c8 => ?_) (fun c8 => ?_)
      · have hf := iten c8 hf
        refine lv_iload_n hx hb dX3_sendLetter_41 rfl (lv_at hl 4 rfl) ?_
        refine lv_aload_n hx hb dX3_sendLetter_42 rfl (lv_at hl 2 rfl) ?_
        refine gf_X3_12 X hG hT dX3_sendLetter_43 ?_
        refine gf_X3_111 X hG hT.2.1 dX3_sendLetter_46 ?_
        refine lv_iload hx hb dX3_sendLetter_49 (lv_at hl 0 rfl) ?_
        obtain ⟨hi9, hf⟩ := ck_some hf
        refine mw_iald X hG hT.2.1.2.2.2.2.1 hi9 dX3_sendLetter_51 ?_
        refine lv_iadd hx hb dX3_sendLetter_52 ?_
        refine lv_topi (fun x10 ex10 => ?_)
        have hf := nm_of ex10 hf
        refine lv_istore (lv' := [(6, .int x10), (5, .int x6), (4, .int x1), (0, .ref (a this)), (1, .int v1), (2, .int v2), (3, .int v3)]) hx hb dX3_sendLetter_53 hl (by decide) rfl (fun ls hl => ?_)
        refine lv_aload_n hx hb dX3_sendLetter_55 rfl (lv_at hl 3 rfl) ?_
        refine gf_X3_20 X hG hT dX3_sendLetter_56 ?_
        refine lv_aload_n hx hb dX3_sendLetter_59 rfl (lv_at hl 3 rfl) ?_
        refine gf_X3_12 X hG hT dX3_sendLetter_60 ?_
        refine gf_X3_114 X hG hT.2.1 dX3_sendLetter_63 ?_
        refine lv_iload hx hb dX3_sendLetter_66 (lv_at hl 1 rfl) ?_
        obtain ⟨hi11, hf⟩ := ck_some hf
        refine mw_iald X hG hT.2.1.2.2.1 hi11 dX3_sendLetter_68 ?_
        obtain ⟨hi12, hf⟩ := ck_some hf
        refine mw_aald0 X hG hT.2.2.1 hi12 dX3_sendLetter_69 ?_
        refine lv_iload hx hb dX3_sendLetter_70 (lv_at hl 0 rfl) ?_
        refine lv_iload_n hx hb dX3_sendLetter_72 rfl (lv_at hl 6 rfl) ?_
        refine lv_iconst (v := 1) hx hb dX3_sendLetter_73 (by decide) ?_
        refine lv_isub hx hb dX3_sendLetter_74 ?_
        refine lv_iload hx hb dX3_sendLetter_75 (lv_at hl 1 rfl) ?_
        obtain ⟨M13, hr15, hf⟩ := bd_some hf
        refine mw_callVv (rest := []) X hG (hT.2.2.2.2.2.2 _ (vin_lt hi12)).1 rfl (c_X2_add l dC dI cy a X.2.2.1 (this + 9 + 4 + 4 * (rd M (this + 1 + 2) x6.toNatClampNeg).toNatClampNeg) (hT.2.2.2.2.2.2 _ (vin_lt hi12)) M x10 (v3 - (1 : Int32)) x6 hr15) (mw_cwV X 3 g_X3_90 hd_X2_add ⟨rfl, rfl⟩ ⟨Nat.le_of_ble_eq_true rfl, Nat.le_of_ble_eq_true rfl⟩) rfl hl.1 rfl (Nat.le_of_ble_eq_true rfl) dX3_sendLetter_77 (fun H locs hG => ?_)
        refine lv_aload_n hx hb dX3_sendLetter_80 rfl (lv_at hl 3 rfl) ?_
        refine gf_X3_12 X hG hT dX3_sendLetter_81 ?_
        refine gf_X3_117 X hG hT.2.1 dX3_sendLetter_84 ?_
        refine lv_iload hx hb dX3_sendLetter_87 (lv_at hl 1 rfl) ?_
        refine lv_dup2_11 hx hb dX3_sendLetter_89 rfl rfl ?_
        obtain ⟨hi16, hf⟩ := ck_some hf
        refine mw_iald X hG hT.2.1.2.2.2.2.2.2.1 hi16 dX3_sendLetter_90 ?_
        refine lv_iconst (v := 1) hx hb dX3_sendLetter_91 (by decide) ?_
        refine lv_iadd hx hb dX3_sendLetter_92 ?_
        obtain ⟨hi17, hf⟩ := ck_some hf
        refine mw_iast X hG hT.2.1.2.2.2.2.2.2.1 hi17 dX3_sendLetter_93 (fun M18 H locs eM18 hG => ?_)
        have hf := nm_of eM18 hf
        refine lv_aload_n hx hb dX3_sendLetter_94 rfl (lv_at hl 3 rfl) ?_
        refine gf_X3_12 X hG hT dX3_sendLetter_95 ?_
        refine gf_X3_80 X hG hT.2.1 dX3_sendLetter_98 ?_
        refine lv_iload hx hb dX3_sendLetter_101 (lv_at hl 1 rfl) ?_
        refine lv_aload_n hx hb dX3_sendLetter_103 rfl (lv_at hl 3 rfl) ?_
        refine gf_X3_12 X hG hT dX3_sendLetter_104 ?_
        refine gf_X3_80 X hG hT.2.1 dX3_sendLetter_107 ?_
        refine lv_iload hx hb dX3_sendLetter_110 (lv_at hl 1 rfl) ?_
        obtain ⟨hi19, hf⟩ := ck_some hf
        refine mw_iald X hG hT.2.1.2.2.2.2.2.1 hi19 dX3_sendLetter_112 ?_
        refine lv_iload hx hb dX3_sendLetter_113 (lv_at hl 0 rfl) ?_
        refine va_mmax hx hb (X.1.2.2.1.trans hl.1.symm) hown (hts _ wd_ml_X3_120) (hts _ wd_st_Lib_Math_max_name) (hts _ wd_ini_java_lang_Math) (hts _ wd_co_Lib_Math_max_name) (Nat.le_of_ble_eq_true rfl) (Nat.le_of_ble_eq_true rfl) (Nat.zero_le _) (Nat.zero_le _) dX3_sendLetter_115 ?_
        obtain ⟨hi20, hf⟩ := ck_some hf
        refine mw_iast X hG hT.2.1.2.2.2.2.2.1 hi20 dX3_sendLetter_118 (fun M21 H locs eM21 hG => ?_)
        have hf := nm_of eM21 hf
        obtain rfl := Option.some.inj hf
        exact mw_vret X hG dX3_sendLetter_119
      · have hf := itep c8 hf
        obtain rfl := Option.some.inj hf
        exact mw_vret X hG dX3_sendLetter_40
    · have hf := itep c4 hf
      exact w_X3_sendLetter_L19 X hT hf hG (lv_sub hl [1] rfl)
/-! X3_workOnFirst -/
set_option maxHeartbeats 4000000 in
set_option maxRecDepth 100000 in
theorem c_X3_workOnFirst (l : Launch) (dC : Nat → ClassId) (dI : Nat → Nat → Nat) (cy : Nat → ClassId) (a : Nat → Nat) (ha : injU a) (this : Nat) (hT : K3 this) (M : Mem) (v1 : Int32) {o : Mem} (hf : f_X3_workOnFirst M this v1 = some o) : Met l yX3_workOnFirst (wsU yX3_workOnFirst cX3_workOnFirst 5 none) ({ frames := 3, cells := 0, slots := 0, locals := 73 } : Room) (PU dC dI cy a [.ref (a this), .int v1] M) (QUv dC dI cy a o) 0 0 (AU a) := by
  refine mw_met (by decide) ha (Nat.le_of_ble_eq_true rfl) ?_
  intro p e s m below meth c ls X hG hl
  have hl : lv_has ls 5 [(0, .ref (a this)), (1, .int v1)] := hl
  have X : XU dC dI cy a p s m c [.ref (a this), .int v1].toArray meth cX3_workOnFirst 5 RX3 none := X
  have hx := X.1.1
  have hb := X.1.2.1
  have hown := X.1.2.2.2.1
  have hts := X.1.2.2.2.2
  rw [f_X3_workOnFirst] at hf
  refine lv_aload_n hx hb dX3_workOnFirst_0 rfl (lv_at hl 0 rfl) ?_
  refine gf_X3_20 X hG hT dX3_workOnFirst_1 ?_
  refine lv_iload_n hx hb dX3_workOnFirst_4 rfl (lv_at hl 1 rfl) ?_
  obtain ⟨hi1, hf⟩ := ck_some hf
  refine mw_aald0 X hG hT.2.2.1 hi1 dX3_workOnFirst_5 ?_
  refine lv_astore_n (lv' := [(2, .ref (a (this + 9 + 4 + 4 * v1.toNatClampNeg))), (0, .ref (a this)), (1, .int v1)]) hx hb dX3_workOnFirst_6 rfl hl (by decide) rfl (fun ls hl => ?_)
  refine lv_aload_n hx hb dX3_workOnFirst_7 rfl (lv_at hl 0 rfl) ?_
  refine gf_X3_42 X hG (hT.2.2.2.2.2.2 _ (vin_lt hi1)) dX3_workOnFirst_8 ?_
  refine lv_if_ne (tgt := 15) hx hb dX3_workOnFirst_11 (by decide) (fun c2 => ?_) (fun c2 => ?_)
  · have hf := iten c2 hf
    refine lv_aload_n hx hb dX3_workOnFirst_15 rfl (lv_at hl 0 rfl) ?_
    obtain ⟨x3, hr4, hf⟩ := bd_some hf
    refine mw_callVi (rest := []) X hG (hT.2.2.2.2.2.2 _ (vin_lt hi1)).1 rfl (c_X2_firstTime l dC dI cy a X.2.2.1 (this + 9 + 4 + 4 * v1.toNatClampNeg) (hT.2.2.2.2.2.2 _ (vin_lt hi1)) M  hr4) (mw_cwV X 0 g_X3_68 hd_X2_firstTime ⟨rfl, rfl⟩ ⟨Nat.le_of_ble_eq_true rfl, Nat.le_of_ble_eq_true rfl⟩) rfl hl.1 rfl (Nat.le_of_ble_eq_true rfl) dX3_workOnFirst_16 (fun H locs hG => ?_)
    refine lv_istore_n (lv' := [(3, .int x3), (2, .ref (a (this + 9 + 4 + 4 * v1.toNatClampNeg))), (0, .ref (a this)), (1, .int v1)]) hx hb dX3_workOnFirst_19 rfl hl (by decide) rfl (fun ls hl => ?_)
    refine lv_aload_n hx hb dX3_workOnFirst_20 rfl (lv_at hl 1 rfl) ?_
    obtain ⟨x5, hr6, hf⟩ := bd_some hf
    refine mw_callVi (rest := []) X hG (hT.2.2.2.2.2.2 _ (vin_lt hi1)).1 rfl (c_X2_firstValue l dC dI cy a X.2.2.1 (this + 9 + 4 + 4 * v1.toNatClampNeg) (hT.2.2.2.2.2.2 _ (vin_lt hi1)) M  hr6) (mw_cwV X 0 g_X3_94 hd_X2_firstValue ⟨rfl, rfl⟩ ⟨Nat.le_of_ble_eq_true rfl, Nat.le_of_ble_eq_true rfl⟩) rfl hl.1 rfl (Nat.le_of_ble_eq_true rfl) dX3_workOnFirst_21 (fun H locs hG => ?_)
    refine lv_istore (lv' := [(4, .int x5), (3, .int x3), (2, .ref (a (this + 9 + 4 + 4 * v1.toNatClampNeg))), (0, .ref (a this)), (1, .int v1)]) hx hb dX3_workOnFirst_24 hl (by decide) rfl (fun ls hl => ?_)
    refine lv_aload_n hx hb dX3_workOnFirst_26 rfl (lv_at hl 2 rfl) ?_
    obtain ⟨M7, hr9, hf⟩ := bd_some hf
    refine mw_callVv (rest := []) X hG (hT.2.2.2.2.2.2 _ (vin_lt hi1)).1 rfl (c_X2_removeFirst l dC dI cy a X.2.2.1 (this + 9 + 4 + 4 * v1.toNatClampNeg) (hT.2.2.2.2.2.2 _ (vin_lt hi1)) M  hr9) (mw_cwV X 0 g_X3_97 hd_X2_removeFirst ⟨rfl, rfl⟩ ⟨Nat.le_of_ble_eq_true rfl, Nat.le_of_ble_eq_true rfl⟩) rfl hl.1 rfl (Nat.le_of_ble_eq_true rfl) dX3_workOnFirst_27 (fun H locs hG => ?_)
    refine lv_aload_n hx hb dX3_workOnFirst_30 rfl (lv_at hl 3 rfl) ?_
    refine gf_X3_24 X hG hT dX3_workOnFirst_31 ?_
    refine lv_iload_n hx hb dX3_workOnFirst_34 rfl (lv_at hl 4 rfl) ?_
    refine lv_dup2_11 hx hb dX3_workOnFirst_35 rfl rfl ?_
    obtain ⟨hi10, hf⟩ := ck_some hf
    refine mw_iald X hG hT.2.2.2.1 hi10 dX3_workOnFirst_36 ?_
    refine lv_iconst (v := 1) hx hb dX3_workOnFirst_37 (by decide) ?_
    refine lv_iadd hx hb dX3_workOnFirst_38 ?_
    obtain ⟨hi11, hf⟩ := ck_some hf
    refine mw_iast X hG hT.2.2.2.1 hi11 dX3_workOnFirst_39 (fun M12 H locs eM12 hG => ?_)
    have hf := nm_of eM12 hf
    refine lv_aload_n hx hb dX3_workOnFirst_40 rfl (lv_at hl 3 rfl) ?_
    refine gf_X3_28 X hG hT dX3_workOnFirst_41 ?_
    refine lv_iload_n hx hb dX3_workOnFirst_44 rfl (lv_at hl 4 rfl) ?_
    refine lv_bipush (v := 31) hx hb dX3_workOnFirst_45 (by decide) ?_
    refine lv_aload_n hx hb dX3_workOnFirst_47 rfl (lv_at hl 3 rfl) ?_
    refine gf_X3_28 X hG hT dX3_workOnFirst_48 ?_
    refine lv_iload_n hx hb dX3_workOnFirst_51 rfl (lv_at hl 4 rfl) ?_
    obtain ⟨hi13, hf⟩ := ck_some hf
    refine mw_iald X hG hT.2.2.2.2.1 hi13 dX3_workOnFirst_52 ?_
    refine lv_imul hx hb dX3_workOnFirst_53 ?_
    refine lv_iload hx hb dX3_workOnFirst_54 (lv_at hl 0 rfl) ?_
    refine lv_iadd hx hb dX3_workOnFirst_56 ?_
    refine lv_iload_n hx hb dX3_workOnFirst_57 rfl (lv_at hl 1 rfl) ?_
    refine lv_iadd hx hb dX3_workOnFirst_58 ?_
    refine lv_ldc (v := 1000003) hx hb hown (hts _ wd_ct_X3_100) dX3_workOnFirst_59 ?_
    obtain ⟨hz14, hf⟩ := nz_some hf
    refine lv_irem hx hb dX3_workOnFirst_61 hz14 ?_
    obtain ⟨hi15, hf⟩ := ck_some hf
    refine mw_iast X hG hT.2.2.2.2.1 hi15 dX3_workOnFirst_62 (fun M16 H locs eM16 hG => ?_)
    have hf := nm_of eM16 hf
    refine lv_aload_n hx hb dX3_workOnFirst_63 rfl (lv_at hl 3 rfl) ?_
    refine gf_X3_31 X hG hT dX3_workOnFirst_64 ?_
    refine lv_iload_n hx hb dX3_workOnFirst_67 rfl (lv_at hl 4 rfl) ?_
    refine lv_iload_n hx hb dX3_workOnFirst_68 rfl (lv_at hl 1 rfl) ?_
    obtain ⟨hi17, hf⟩ := ck_some hf
    refine mw_iast X hG hT.2.2.2.2.2.1 hi17 dX3_workOnFirst_69 (fun M18 H locs eM18 hG => ?_)
    have hf := nm_of eM18 hf
    refine lv_aload_n hx hb dX3_workOnFirst_70 rfl (lv_at hl 3 rfl) ?_
    refine lv_dup hx hb dX3_workOnFirst_71 rfl ?_
    refine gf_X3_46 X hG hT dX3_workOnFirst_72 ?_
    refine lv_iconst (v := 1) hx hb dX3_workOnFirst_75 (by decide) ?_
    refine lv_iadd hx hb dX3_workOnFirst_76 ?_
    refine pf_X3_46 X hG hT dX3_workOnFirst_77 (fun M19 H locs eM19 hG => ?_)
    have hf := nm_of eM19 hf
    refine lv_aload_n hx hb dX3_workOnFirst_80 rfl (lv_at hl 3 rfl) ?_
    refine lv_iload_n hx hb dX3_workOnFirst_81 rfl (lv_at hl 4 rfl) ?_
    refine lv_iload_n hx hb dX3_workOnFirst_82 rfl (lv_at hl 1 rfl) ?_
    refine lv_iload hx hb dX3_workOnFirst_83 (lv_at hl 0 rfl) ?_
    obtain ⟨M20, hr22, hf⟩ := bd_some hf
    refine mw_callVv (rest := []) X hG hT.1 rfl (c_X3_sendLetter l dC dI cy a X.2.2.1 this hT M19 v1 x3 x5 hr22) (mw_cwV X 3 g_X3_101 hd_X3_sendLetter ⟨rfl, rfl⟩ ⟨Nat.le_of_ble_eq_true rfl, Nat.le_of_ble_eq_true rfl⟩) rfl hl.1 rfl (Nat.le_of_ble_eq_true rfl) dX3_workOnFirst_85 (fun H locs hG => ?_)
    obtain rfl := Option.some.inj hf
    exact mw_vret X hG dX3_workOnFirst_88
  · have hf := itep c2 hf
    obtain rfl := Option.some.inj hf
    exact mw_vret X hG dX3_workOnFirst_14
/-! X3_emptyMayGo -/
set_option maxHeartbeats 4000000 in
set_option maxRecDepth 100000 in
theorem w_X3_emptyMayGo_L30 {l : Launch} {dC : Nat → ClassId} {dI : Nat → Nat → Nat} {cy : Nat → ClassId} {a : Nat → Nat} {p : Program} {e : Env} {s : State} {m : MethodId} {args : Array Value} {below : List Frame} {meth : Method} {c : Code} (X : XU dC dI cy a p s m c args meth cX3_emptyMayGo 2 RX3 (some .boolean)) {M : Mem} {this : Nat} (hT : K3 this) {s0 : Int32} {o : Int32} {H : Heap} {locs : List Loc} {ls : Array Slot} (hf : f_X3_emptyMayGo_L30 M this s0 = some o) (hG : GU dC dI cy a s.heap M H locs) (hl : lv_has ls 2 [(0, .ref (a this))]) : W p l e ({ frames := 2, cells := 0, slots := 0, locals := 45 } : Room) s m args below meth c H locs 0 0 (MQ below (QUi dC dI cy a o M) args s 0 0 (AU a)) (F0 m 30 ls [.int s0]) := by
  have hx := X.1.1
  have hb := X.1.2.1
  have hown := X.1.2.2.2.1
  have hts := X.1.2.2.2.2
  rw [f_X3_emptyMayGo_L30] at hf
  obtain ⟨hz1, hf⟩ := zk_some hf
  obtain rfl := Option.some.inj hf
  exact mw_zret X hG (zk_nar hz1) dX3_emptyMayGo_30
set_option maxHeartbeats 4000000 in
set_option maxRecDepth 100000 in
theorem w_X3_emptyMayGo_L25 {l : Launch} {dC : Nat → ClassId} {dI : Nat → Nat → Nat} {cy : Nat → ClassId} {a : Nat → Nat} {p : Program} {e : Env} {s : State} {m : MethodId} {args : Array Value} {below : List Frame} {meth : Method} {c : Code} (X : XU dC dI cy a p s m c args meth cX3_emptyMayGo 2 RX3 (some .boolean)) {M : Mem} {this : Nat} (hT : K3 this) {o : Int32} {H : Heap} {locs : List Loc} {ls : Array Slot} (hf : f_X3_emptyMayGo_L25 M this = some o) (hG : GU dC dI cy a s.heap M H locs) (hl : lv_has ls 2 [(0, .ref (a this))]) : W p l e ({ frames := 2, cells := 0, slots := 0, locals := 45 } : Room) s m args below meth c H locs 0 0 (MQ below (QUi dC dI cy a o M) args s 0 0 (AU a)) (F0 m 25 ls []) := by
  have hx := X.1.1
  have hb := X.1.2.1
  have hown := X.1.2.2.2.1
  have hts := X.1.2.2.2.2
  rw [f_X3_emptyMayGo_L25] at hf
  refine lv_iconst (v := 1) hx hb dX3_emptyMayGo_25 (by decide) ?_
  refine lv_goto (tgt := 30) hx hb dX3_emptyMayGo_26 (by decide) ?_
  exact w_X3_emptyMayGo_L30 X hT hf hG (lv_sub hl [0] rfl)
set_option maxHeartbeats 4000000 in
set_option maxRecDepth 100000 in
theorem c_X3_emptyMayGo (l : Launch) (dC : Nat → ClassId) (dI : Nat → Nat → Nat) (cy : Nat → ClassId) (a : Nat → Nat) (ha : injU a) (this : Nat) (hT : K3 this) (M : Mem) (v1 : Int32) {o : Int32} (hf : f_X3_emptyMayGo M this v1 = some o) : Met l yX3_emptyMayGo (wsU yX3_emptyMayGo cX3_emptyMayGo 2 (some .boolean)) ({ frames := 2, cells := 0, slots := 0, locals := 45 } : Room) (PU dC dI cy a [.ref (a this), .int v1] M) (QUi dC dI cy a o M) 0 0 (AU a) := by
  refine mw_met (by decide) ha (Nat.le_of_ble_eq_true rfl) ?_
  intro p e s m below meth c ls X hG hl
  have hl : lv_has ls 2 [(0, .ref (a this)), (1, .int v1)] := hl
  have X : XU dC dI cy a p s m c [.ref (a this), .int v1].toArray meth cX3_emptyMayGo 2 RX3 (some .boolean) := X
  have hx := X.1.1
  have hb := X.1.2.1
  have hown := X.1.2.2.2.1
  have hts := X.1.2.2.2.2
  rw [f_X3_emptyMayGo] at hf
  refine lv_aload_n hx hb dX3_emptyMayGo_0 rfl (lv_at hl 0 rfl) ?_
  refine gf_X3_34 X hG hT dX3_emptyMayGo_1 ?_
  refine lv_iconst (v := 2) hx hb dX3_emptyMayGo_4 (by decide) ?_
  refine lv_icmp_ne (tgt := 25) hx hb dX3_emptyMayGo_5 (by decide) (fun c1 => ?_) (fun c1 => ?_)
  · have hf := iten c1 hf
    exact w_X3_emptyMayGo_L25 X hT hf hG (lv_sub hl [0] rfl)
  · have hf := itep c1 hf
    refine lv_aload_n hx hb dX3_emptyMayGo_8 rfl (lv_at hl 0 rfl) ?_
    refine lv_aload_n hx hb dX3_emptyMayGo_9 rfl (lv_at hl 0 rfl) ?_
    refine gf_X3_12 X hG hT dX3_emptyMayGo_10 ?_
    refine gf_X3_114 X hG hT.2.1 dX3_emptyMayGo_13 ?_
    refine lv_iload_n hx hb dX3_emptyMayGo_16 rfl (lv_at hl 1 rfl) ?_
    obtain ⟨hi2, hf⟩ := ck_some hf
    refine mw_iald X hG hT.2.1.2.2.1 hi2 dX3_emptyMayGo_17 ?_
    obtain ⟨x3, hr4, hf⟩ := bd_some hf
    refine mw_callVi (rest := []) X hG hT.1 rfl (c_X3_channelWaitedFor l dC dI cy a X.2.2.1 this hT M (rd M (this + 1 + 2) v1.toNatClampNeg) hr4) (mw_cwV X 1 g_X3_140 hd_X3_channelWaitedFor ⟨rfl, rfl⟩ ⟨Nat.le_of_ble_eq_true rfl, Nat.le_of_ble_eq_true rfl⟩) rfl hl.1 rfl (Nat.le_of_ble_eq_true rfl) dX3_emptyMayGo_18 (fun H locs hG => ?_)
    refine lv_iload_n hx hb dX3_emptyMayGo_21 rfl (lv_at hl 1 rfl) ?_
    refine lv_icmp_ne (tgt := 29) hx hb dX3_emptyMayGo_22 (by decide) (fun c5 => ?_) (fun c5 => ?_)
    · have hf := iten c5 hf
      refine lv_iconst (v := 0) hx hb dX3_emptyMayGo_29 (by decide) ?_
      exact w_X3_emptyMayGo_L30 X hT hf hG (lv_sub hl [0] rfl)
    · have hf := itep c5 hf
      exact w_X3_emptyMayGo_L25 X hT hf hG (lv_sub hl [0] rfl)
/-! X3_sendEmptyLetters -/
set_option maxHeartbeats 4000000 in
set_option maxRecDepth 100000 in
theorem w_X3_sendEmptyLetters_L118 {l : Launch} {dC : Nat → ClassId} {dI : Nat → Nat → Nat} {cy : Nat → ClassId} {a : Nat → Nat} {p : Program} {e : Env} {s : State} {m : MethodId} {args : Array Value} {below : List Frame} {meth : Method} {c : Code} (X : XU dC dI cy a p s m c args meth cX3_sendEmptyLetters 5 RX3 none) {M : Mem} {this : Nat} (hT : K3 this) {v1 : Int32} {v2 : Int32} {v3 : Int32} {o : Mem} {k20 : Mem → Int32 → Option Mem} (hk20 : ∀ (M : Mem) (v3 : Int32) (H : Heap) (locs : List Loc) (ls : Array Slot), k20 M v3 = some o → GU dC dI cy a s.heap M H locs → lv_has ls 5 [(0, .ref (a this)), (1, .int v1), (2, .int v2), (3, .int v3)] → W p l e ({ frames := 3, cells := 0, slots := 0, locals := 66 } : Room) s m args below meth c H locs 0 0 (MQ below (QUv dC dI cy a o) args s 0 0 (AU a)) (F0 m 20 ls [])) {H : Heap} {locs : List Loc} {ls : Array Slot} (hf : f_X3_sendEmptyLetters_L118 k20 M this v1 v2 v3 = some o) (hG : GU dC dI cy a s.heap M H locs) (hl : lv_has ls 5 [(0, .ref (a this)), (1, .int v1), (2, .int v2), (3, .int v3)]) : W p l e ({ frames := 3, cells := 0, slots := 0, locals := 66 } : Room) s m args below meth c H locs 0 0 (MQ below (QUv dC dI cy a o) args s 0 0 (AU a)) (F0 m 118 ls []) := by
  have hx := X.1.1
  have hb := X.1.2.1
  have hown := X.1.2.2.2.1
  have hts := X.1.2.2.2.2
  rw [f_X3_sendEmptyLetters_L118] at hf
  obtain ⟨x1, ex1⟩ : ∃ y : Int32, y = v3 + (1 : Int32) := ⟨_, rfl⟩
  have hf := nm_of ex1 hf
  refine lv_iinc (v := x1) (lv' := [(3, .int x1), (0, .ref (a this)), (1, .int v1), (2, .int v2)]) hx hb dX3_sendEmptyLetters_118 hl (k := 3) rfl (by rw [ex1]; rfl) (by decide) rfl (fun ls hl => ?_)
  refine lv_goto (tgt := 20) hx hb dX3_sendEmptyLetters_121 (by decide) ?_
  exact hk20 _ _ _ _ _ hf hG (lv_sub hl [1, 2, 3, 0] rfl)
set_option maxHeartbeats 4000000 in
set_option maxRecDepth 100000 in
theorem w_X3_sendEmptyLetters_L20 {l : Launch} {dC : Nat → ClassId} {dI : Nat → Nat → Nat} {cy : Nat → ClassId} {a : Nat → Nat} {p : Program} {e : Env} {s : State} {m : MethodId} {args : Array Value} {below : List Frame} {meth : Method} {c : Code} (X : XU dC dI cy a p s m c args meth cX3_sendEmptyLetters 5 RX3 none) {this : Nat} (hT : K3 this) {v1 : Int32} {v2 : Int32} {o : Mem} : ∀ (n : Nat) (M : Mem) (v3 : Int32) (H : Heap) (locs : List Loc) (ls : Array Slot), f_X3_sendEmptyLetters_L20 this v1 v2 n M v3 = some o → GU dC dI cy a s.heap M H locs → lv_has ls 5 [(0, .ref (a this)), (1, .int v1), (2, .int v2), (3, .int v3)] → W p l e ({ frames := 3, cells := 0, slots := 0, locals := 66 } : Room) s m args below meth c H locs 0 0 (MQ below (QUv dC dI cy a o) args s 0 0 (AU a)) (F0 m 20 ls []) := by
  have hx := X.1.1
  have hb := X.1.2.1
  have hown := X.1.2.2.2.1
  have hts := X.1.2.2.2.2
  intro n
  induction n with
  | zero => intro M v3 H locs ls hf; cases hf
  | succ n ih =>
    intro M v3 H locs ls hf hG hl
    rw [f_X3_sendEmptyLetters_L20] at hf
    refine lv_iload_n hx hb dX3_sendEmptyLetters_20 rfl (lv_at hl 3 rfl) ?_
    refine lv_aload_n hx hb dX3_sendEmptyLetters_21 rfl (lv_at hl 0 rfl) ?_
    refine gf_X3_12 X hG hT dX3_sendEmptyLetters_22 ?_
    refine gf_X3_39 X hG hT.2.1 dX3_sendEmptyLetters_25 ?_
    refine lv_icmp_ge (tgt := 124) hx hb dX3_sendEmptyLetters_28 (by decide) (fun c1 => ?_) (fun c1 => ?_)
    · have hf := itep c1 hf
      obtain rfl := Option.some.inj hf
      exact mw_vret X hG dX3_sendEmptyLetters_124
    · have hf := iten c1 hf
      refine lv_iload_n hx hb dX3_sendEmptyLetters_31 rfl (lv_at hl 2 rfl) ?_
      refine lv_aload_n hx hb dX3_sendEmptyLetters_32 rfl (lv_at hl 0 rfl) ?_
      refine gf_X3_12 X hG hT dX3_sendEmptyLetters_33 ?_
      refine gf_X3_128 X hG hT.2.1 dX3_sendEmptyLetters_36 ?_
      refine lv_iload_n hx hb dX3_sendEmptyLetters_39 rfl (lv_at hl 3 rfl) ?_
      obtain ⟨hi2, hf⟩ := ck_some hf
      refine mw_iald X hG hT.2.1.2.2.2.1 hi2 dX3_sendEmptyLetters_40 ?_
      refine lv_iadd hx hb dX3_sendEmptyLetters_41 ?_
      refine lv_ldc (v := 99999999) hx hb hown (hts _ wd_ct_X3_79) dX3_sendEmptyLetters_42 ?_
      refine va_mmin hx hb (X.1.2.2.1.trans hl.1.symm) hown (hts _ wd_ml_X3_125) (hts _ wd_st_Lib_Math_min_name) (hts _ wd_ini_java_lang_Math) (hts _ wd_co_Lib_Math_min_name) (Nat.le_of_ble_eq_true rfl) (Nat.le_of_ble_eq_true rfl) (Nat.zero_le _) (Nat.zero_le _) dX3_sendEmptyLetters_44 ?_
      refine lv_topi (fun x3 ex3 => ?_)
      have hf := nm_of ex3 hf
      refine lv_istore (lv' := [(4, .int x3), (0, .ref (a this)), (1, .int v1), (2, .int v2), (3, .int v3)]) hx hb dX3_sendEmptyLetters_47 hl (by decide) rfl (fun ls hl => ?_)
      refine lv_aload_n hx hb dX3_sendEmptyLetters_49 rfl (lv_at hl 1 rfl) ?_
      refine gf_X3_12 X hG hT dX3_sendEmptyLetters_50 ?_
      refine gf_X3_131 X hG hT.2.1 dX3_sendEmptyLetters_53 ?_
      refine lv_iload_n hx hb dX3_sendEmptyLetters_56 rfl (lv_at hl 4 rfl) ?_
      obtain ⟨hi4, hf⟩ := ck_some hf
      refine mw_iald X hG hT.2.1.2.1 hi4 dX3_sendEmptyLetters_57 ?_
      refine lv_iload_n hx hb dX3_sendEmptyLetters_58 rfl (lv_at hl 2 rfl) ?_
      refine lv_icmp_ne (tgt := 118) hx hb dX3_sendEmptyLetters_59 (by decide) (fun c5 => ?_) (fun c5 => ?_)
      · have hf := iten c5 hf
        exact w_X3_sendEmptyLetters_L118 X hT ih hf hG (lv_sub hl [1, 2, 3, 4] rfl)
      · have hf := itep c5 hf
        refine lv_aload_n hx hb dX3_sendEmptyLetters_62 rfl (lv_at hl 1 rfl) ?_
        refine gf_X3_12 X hG hT dX3_sendEmptyLetters_63 ?_
        refine gf_X3_80 X hG hT.2.1 dX3_sendEmptyLetters_66 ?_
        refine lv_iload_n hx hb dX3_sendEmptyLetters_69 rfl (lv_at hl 4 rfl) ?_
        obtain ⟨hi6, hf⟩ := ck_some hf
        refine mw_iald X hG hT.2.1.2.2.2.2.2.1 hi6 dX3_sendEmptyLetters_70 ?_
        refine lv_iload hx hb dX3_sendEmptyLetters_71 (lv_at hl 0 rfl) ?_
        refine lv_icmp_ge (tgt := 118) hx hb dX3_sendEmptyLetters_73 (by decide) (fun c7 => ?_) (fun c7 => ?_)
        · have hf := itep c7 hf
          exact w_X3_sendEmptyLetters_L118 X hT ih hf hG (lv_sub hl [1, 2, 3, 4] rfl)
        · have hf := iten c7 hf
          refine lv_aload_n hx hb dX3_sendEmptyLetters_76 rfl (lv_at hl 1 rfl) ?_
          refine lv_iload_n hx hb dX3_sendEmptyLetters_77 rfl (lv_at hl 4 rfl) ?_
          obtain ⟨x8, hr9, hf⟩ := bd_some hf
          refine mw_callVi (rest := []) X hG hT.1 rfl (c_X3_emptyMayGo l dC dI cy a X.2.2.1 this hT M v3 hr9) (mw_cwV X 1 g_X3_134 hd_X3_emptyMayGo ⟨rfl, rfl⟩ ⟨Nat.le_of_ble_eq_true rfl, Nat.le_of_ble_eq_true rfl⟩) rfl hl.1 rfl (Nat.le_of_ble_eq_true rfl) dX3_sendEmptyLetters_78 (fun H locs hG => ?_)
          refine lv_if_eq (tgt := 118) hx hb dX3_sendEmptyLetters_81 (by decide) (fun c10 => ?_) (fun c10 => ?_)
          · have hf := itep c10 hf
            exact w_X3_sendEmptyLetters_L118 X hT ih hf hG (lv_sub hl [1, 2, 3, 4] rfl)
          · have hf := iten c10 hf
            refine lv_aload_n hx hb dX3_sendEmptyLetters_84 rfl (lv_at hl 1 rfl) ?_
            refine gf_X3_12 X hG hT dX3_sendEmptyLetters_85 ?_
            refine gf_X3_80 X hG hT.2.1 dX3_sendEmptyLetters_88 ?_
            refine lv_iload_n hx hb dX3_sendEmptyLetters_91 rfl (lv_at hl 4 rfl) ?_
            refine lv_iload hx hb dX3_sendEmptyLetters_92 (lv_at hl 0 rfl) ?_
            obtain ⟨hi11, hf⟩ := ck_some hf
            refine mw_iast X hG hT.2.1.2.2.2.2.2.1 hi11 dX3_sendEmptyLetters_94 (fun M12 H locs eM12 hG => ?_)
            have hf := nm_of eM12 hf
            refine lv_aload_n hx hb dX3_sendEmptyLetters_95 rfl (lv_at hl 1 rfl) ?_
            refine gf_X3_12 X hG hT dX3_sendEmptyLetters_96 ?_
            refine gf_X3_137 X hG hT.2.1 dX3_sendEmptyLetters_99 ?_
            refine lv_iload_n hx hb dX3_sendEmptyLetters_102 rfl (lv_at hl 4 rfl) ?_
            refine lv_dup2_11 hx hb dX3_sendEmptyLetters_103 rfl rfl ?_
            obtain ⟨hi13, hf⟩ := ck_some hf
            refine mw_iald X hG hT.2.1.2.2.2.2.2.2.2 hi13 dX3_sendEmptyLetters_104 ?_
            refine lv_iconst (v := 1) hx hb dX3_sendEmptyLetters_105 (by decide) ?_
            refine lv_iadd hx hb dX3_sendEmptyLetters_106 ?_
            obtain ⟨hi14, hf⟩ := ck_some hf
            refine mw_iast X hG hT.2.1.2.2.2.2.2.2.2 hi14 dX3_sendEmptyLetters_107 (fun M15 H locs eM15 hG => ?_)
            have hf := nm_of eM15 hf
            refine lv_aload_n hx hb dX3_sendEmptyLetters_108 rfl (lv_at hl 1 rfl) ?_
            refine lv_dup hx hb dX3_sendEmptyLetters_109 rfl ?_
            refine gf_X3_49 X hG hT dX3_sendEmptyLetters_110 ?_
            refine lv_iconst (v := 1) hx hb dX3_sendEmptyLetters_113 (by decide) ?_
            refine lv_iadd hx hb dX3_sendEmptyLetters_114 ?_
            refine pf_X3_49 X hG hT dX3_sendEmptyLetters_115 (fun M16 H locs eM16 hG => ?_)
            have hf := nm_of eM16 hf
            exact w_X3_sendEmptyLetters_L118 X hT ih hf hG (lv_sub hl [1, 2, 3, 4] rfl)
set_option maxHeartbeats 4000000 in
set_option maxRecDepth 100000 in
theorem c_X3_sendEmptyLetters (l : Launch) (dC : Nat → ClassId) (dI : Nat → Nat → Nat) (cy : Nat → ClassId) (a : Nat → Nat) (ha : injU a) (this : Nat) (hT : K3 this) (M : Mem) (v1 : Int32) {o : Mem} (hf : f_X3_sendEmptyLetters M this v1 = some o) : Met l yX3_sendEmptyLetters (wsU yX3_sendEmptyLetters cX3_sendEmptyLetters 5 none) ({ frames := 3, cells := 0, slots := 0, locals := 66 } : Room) (PU dC dI cy a [.ref (a this), .int v1] M) (QUv dC dI cy a o) 0 0 (AU a) := by
  refine mw_met (by decide) ha (Nat.le_of_ble_eq_true rfl) ?_
  intro p e s m below meth c ls X hG hl
  have hl : lv_has ls 5 [(0, .ref (a this)), (1, .int v1)] := hl
  have X : XU dC dI cy a p s m c [.ref (a this), .int v1].toArray meth cX3_sendEmptyLetters 5 RX3 none := X
  have hx := X.1.1
  have hb := X.1.2.1
  have hown := X.1.2.2.2.1
  have hts := X.1.2.2.2.2
  rw [f_X3_sendEmptyLetters] at hf
  refine lv_aload_n hx hb dX3_sendEmptyLetters_0 rfl (lv_at hl 0 rfl) ?_
  refine lv_iload_n hx hb dX3_sendEmptyLetters_1 rfl (lv_at hl 1 rfl) ?_
  obtain ⟨x1, hr2, hf⟩ := bd_some hf
  refine mw_callVi (rest := []) X hG hT.1 rfl (c_X3_safeOf l dC dI cy a X.2.2.1 this hT M v1 hr2) (mw_cwV X 1 g_X3_83 hd_X3_safeOf ⟨rfl, rfl⟩ ⟨Nat.le_of_ble_eq_true rfl, Nat.le_of_ble_eq_true rfl⟩) rfl hl.1 rfl (Nat.le_of_ble_eq_true rfl) dX3_sendEmptyLetters_2 (fun H locs hG => ?_)
  refine lv_aload_n hx hb dX3_sendEmptyLetters_5 rfl (lv_at hl 0 rfl) ?_
  refine gf_X3_20 X hG hT dX3_sendEmptyLetters_6 ?_
  refine lv_iload_n hx hb dX3_sendEmptyLetters_9 rfl (lv_at hl 1 rfl) ?_
  obtain ⟨hi3, hf⟩ := ck_some hf
  refine mw_aald0 X hG hT.2.2.1 hi3 dX3_sendEmptyLetters_10 ?_
  obtain ⟨x4, hr5, hf⟩ := bd_some hf
  refine mw_callVi (rest := [.int x1]) X hG (hT.2.2.2.2.2.2 _ (vin_lt hi3)).1 rfl (c_X2_firstTime l dC dI cy a X.2.2.1 (this + 9 + 4 + 4 * v1.toNatClampNeg) (hT.2.2.2.2.2.2 _ (vin_lt hi3)) M  hr5) (mw_cwV X 0 g_X3_68 hd_X2_firstTime ⟨rfl, rfl⟩ ⟨Nat.le_of_ble_eq_true rfl, Nat.le_of_ble_eq_true rfl⟩) rfl hl.1 rfl (Nat.le_of_ble_eq_true rfl) dX3_sendEmptyLetters_11 (fun H locs hG => ?_)
  refine va_mmin hx hb (X.1.2.2.1.trans hl.1.symm) hown (hts _ wd_ml_X3_125) (hts _ wd_st_Lib_Math_min_name) (hts _ wd_ini_java_lang_Math) (hts _ wd_co_Lib_Math_min_name) (Nat.le_of_ble_eq_true rfl) (Nat.le_of_ble_eq_true rfl) (Nat.zero_le _) (Nat.zero_le _) dX3_sendEmptyLetters_14 ?_
  refine lv_topi (fun x6 ex6 => ?_)
  have hf := nm_of ex6 hf
  refine lv_istore_n (lv' := [(2, .int x6), (0, .ref (a this)), (1, .int v1)]) hx hb dX3_sendEmptyLetters_17 rfl hl (by decide) rfl (fun ls hl => ?_)
  refine lv_iconst (v := 0) hx hb dX3_sendEmptyLetters_18 (by decide) ?_
  refine lv_istore_n (lv' := [(3, .int (0 : Int32)), (2, .int x6), (0, .ref (a this)), (1, .int v1)]) hx hb dX3_sendEmptyLetters_19 rfl hl (by decide) rfl (fun ls hl => ?_)
  exact w_X3_sendEmptyLetters_L20 X hT 1000 _ _ _ _ _ hf hG (lv_sub hl [2, 3, 1, 0] rfl)
