/-! X2_firstTime -/
set_option maxHeartbeats 4000000 in
set_option maxRecDepth 100000 in
theorem w_X2_firstTime_L18 {l : Launch} {dC : Nat → ClassId} {dI : Nat → Nat → Nat} {cy : Nat → ClassId} {a : Nat → Nat} {p : Program} {e : Env} {s : State} {m : MethodId} {args : Array Value} {below : List Frame} {meth : Method} {c : Code} (X : XU dC dI cy a p s m c args meth cX2_firstTime 1 RX2 (some .int)) {M : Mem} {this : Nat} (hT : K2 this) {s0 : Int32} {o : Int32} {H : Heap} {locs : List Loc} {ls : Array Slot} (hf : f_X2_firstTime_L18 M this s0 = some o) (hG : GU dC dI cy a s.heap M H locs) (hl : lv_has ls 1 [(0, .ref (a this))]) : W p l e ({ frames := 0, cells := 0, slots := 0, locals := 0 } : Room) s m args below meth c H locs 0 0 (MQ below (QUi dC dI cy a o M) args s 0 0 (AU a)) (F0 m 18 ls [.int s0]) := by
  have hx := X.1.1
  have hb := X.1.2.1
  have hown := X.1.2.2.2.1
  have hts := X.1.2.2.2.2
  rw [f_X2_firstTime_L18] at hf
  obtain rfl := Option.some.inj hf
  exact mw_iret X hG dX2_firstTime_18
set_option maxHeartbeats 4000000 in
set_option maxRecDepth 100000 in
theorem c_X2_firstTime (l : Launch) (dC : Nat → ClassId) (dI : Nat → Nat → Nat) (cy : Nat → ClassId) (a : Nat → Nat) (ha : injU a) (this : Nat) (hT : K2 this) (M : Mem) {o : Int32} (hf : f_X2_firstTime M this = some o) : Met l yX2_firstTime (wsU yX2_firstTime cX2_firstTime 1 (some .int)) ({ frames := 0, cells := 0, slots := 0, locals := 0 } : Room) (PU dC dI cy a [.ref (a this)] M) (QUi dC dI cy a o M) 0 0 (AU a) := by
  refine mw_met (by decide) ha (Nat.le_of_ble_eq_true rfl) ?_
  intro p e s m below meth c ls X hG hl
  have hl : lv_has ls 1 [(0, .ref (a this))] := hl
  have X : XU dC dI cy a p s m c [.ref (a this)].toArray meth cX2_firstTime 1 RX2 (some .int) := X
  have hx := X.1.1
  have hb := X.1.2.1
  have hown := X.1.2.2.2.1
  have hts := X.1.2.2.2.2
  rw [f_X2_firstTime] at hf
  refine lv_aload_n hx hb dX2_firstTime_0 rfl (lv_at hl 0 rfl) ?_
  refine gf_X2_21 X hG hT dX2_firstTime_1 ?_
  refine lv_if_ne (tgt := 12) hx hb dX2_firstTime_4 (by decide) (fun c1 => ?_) (fun c1 => ?_)
  · have hf := iten c1 hf
    refine lv_aload_n hx hb dX2_firstTime_12 rfl (lv_at hl 0 rfl) ?_
    refine gf_X2_9 X hG hT dX2_firstTime_13 ?_
    refine lv_iconst (v := 0) hx hb dX2_firstTime_16 (by decide) ?_
    obtain ⟨hi2, hf⟩ := ck_some hf
    refine mw_iald X hG hT.2.1 hi2 dX2_firstTime_17 ?_
    exact w_X2_firstTime_L18 X hT hf hG (lv_sub hl [0] rfl)
  · have hf := itep c1 hf
    refine lv_ldc (v := 99999999) hx hb hown (hts _ wd_ct_X2_25) dX2_firstTime_7 ?_
    refine lv_goto (tgt := 18) hx hb dX2_firstTime_9 (by decide) ?_
    exact w_X2_firstTime_L18 X hT hf hG (lv_sub hl [0] rfl)
/-! X2_firstValue -/
set_option maxHeartbeats 4000000 in
set_option maxRecDepth 100000 in
theorem w_X2_firstValue_L17 {l : Launch} {dC : Nat → ClassId} {dI : Nat → Nat → Nat} {cy : Nat → ClassId} {a : Nat → Nat} {p : Program} {e : Env} {s : State} {m : MethodId} {args : Array Value} {below : List Frame} {meth : Method} {c : Code} (X : XU dC dI cy a p s m c args meth cX2_firstValue 1 RX2 (some .int)) {M : Mem} {this : Nat} (hT : K2 this) {s0 : Int32} {o : Int32} {H : Heap} {locs : List Loc} {ls : Array Slot} (hf : f_X2_firstValue_L17 M this s0 = some o) (hG : GU dC dI cy a s.heap M H locs) (hl : lv_has ls 1 [(0, .ref (a this))]) : W p l e ({ frames := 0, cells := 0, slots := 0, locals := 0 } : Room) s m args below meth c H locs 0 0 (MQ below (QUi dC dI cy a o M) args s 0 0 (AU a)) (F0 m 17 ls [.int s0]) := by
  have hx := X.1.1
  have hb := X.1.2.1
  have hown := X.1.2.2.2.1
  have hts := X.1.2.2.2.2
  rw [f_X2_firstValue_L17] at hf
  obtain rfl := Option.some.inj hf
  exact mw_iret X hG dX2_firstValue_17
set_option maxHeartbeats 4000000 in
set_option maxRecDepth 100000 in
theorem c_X2_firstValue (l : Launch) (dC : Nat → ClassId) (dI : Nat → Nat → Nat) (cy : Nat → ClassId) (a : Nat → Nat) (ha : injU a) (this : Nat) (hT : K2 this) (M : Mem) {o : Int32} (hf : f_X2_firstValue M this = some o) : Met l yX2_firstValue (wsU yX2_firstValue cX2_firstValue 1 (some .int)) ({ frames := 0, cells := 0, slots := 0, locals := 0 } : Room) (PU dC dI cy a [.ref (a this)] M) (QUi dC dI cy a o M) 0 0 (AU a) := by
  refine mw_met (by decide) ha (Nat.le_of_ble_eq_true rfl) ?_
  intro p e s m below meth c ls X hG hl
  have hl : lv_has ls 1 [(0, .ref (a this))] := hl
  have X : XU dC dI cy a p s m c [.ref (a this)].toArray meth cX2_firstValue 1 RX2 (some .int) := X
  have hx := X.1.1
  have hb := X.1.2.1
  have hown := X.1.2.2.2.1
  have hts := X.1.2.2.2.2
  rw [f_X2_firstValue] at hf
  refine lv_aload_n hx hb dX2_firstValue_0 rfl (lv_at hl 0 rfl) ?_
  refine gf_X2_21 X hG hT dX2_firstValue_1 ?_
  refine lv_if_ne (tgt := 11) hx hb dX2_firstValue_4 (by decide) (fun c1 => ?_) (fun c1 => ?_)
  · have hf := iten c1 hf
    refine lv_aload_n hx hb dX2_firstValue_11 rfl (lv_at hl 0 rfl) ?_
    refine gf_X2_15 X hG hT dX2_firstValue_12 ?_
    refine lv_iconst (v := 0) hx hb dX2_firstValue_15 (by decide) ?_
    obtain ⟨hi2, hf⟩ := ck_some hf
    refine mw_iald X hG hT.2.2.1 hi2 dX2_firstValue_16 ?_
    exact w_X2_firstValue_L17 X hT hf hG (lv_sub hl [0] rfl)
  · have hf := itep c1 hf
    refine lv_iconst (v := -1) hx hb dX2_firstValue_7 (by decide) ?_
    refine lv_goto (tgt := 17) hx hb dX2_firstValue_8 (by decide) ?_
    exact w_X2_firstValue_L17 X hT hf hG (lv_sub hl [0] rfl)
/-! X2_isBehind -/
set_option maxHeartbeats 4000000 in
set_option maxRecDepth 100000 in
theorem w_X2_isBehind_L35 {l : Launch} {dC : Nat → ClassId} {dI : Nat → Nat → Nat} {cy : Nat → ClassId} {a : Nat → Nat} {p : Program} {e : Env} {s : State} {m : MethodId} {args : Array Value} {below : List Frame} {meth : Method} {c : Code} (X : XU dC dI cy a p s m c args meth cX2_isBehind 4 RX2 (some .boolean)) {M : Mem} {this : Nat} (hT : K2 this) {s0 : Int32} {o : Int32} {H : Heap} {locs : List Loc} {ls : Array Slot} (hf : f_X2_isBehind_L35 M this s0 = some o) (hG : GU dC dI cy a s.heap M H locs) (hl : lv_has ls 4 [(0, .ref (a this))]) : W p l e ({ frames := 0, cells := 0, slots := 0, locals := 0 } : Room) s m args below meth c H locs 0 0 (MQ below (QUi dC dI cy a o M) args s 0 0 (AU a)) (F0 m 35 ls [.int s0]) := by
  have hx := X.1.1
  have hb := X.1.2.1
  have hown := X.1.2.2.2.1
  have hts := X.1.2.2.2.2
  rw [f_X2_isBehind_L35] at hf
  obtain ⟨hz1, hf⟩ := zk_some hf
  obtain rfl := Option.some.inj hf
  exact mw_zret X hG (zk_nar hz1) dX2_isBehind_35
set_option maxHeartbeats 4000000 in
set_option maxRecDepth 100000 in
theorem w_X2_isBehind_L30 {l : Launch} {dC : Nat → ClassId} {dI : Nat → Nat → Nat} {cy : Nat → ClassId} {a : Nat → Nat} {p : Program} {e : Env} {s : State} {m : MethodId} {args : Array Value} {below : List Frame} {meth : Method} {c : Code} (X : XU dC dI cy a p s m c args meth cX2_isBehind 4 RX2 (some .boolean)) {M : Mem} {this : Nat} (hT : K2 this) {o : Int32} {H : Heap} {locs : List Loc} {ls : Array Slot} (hf : f_X2_isBehind_L30 M this = some o) (hG : GU dC dI cy a s.heap M H locs) (hl : lv_has ls 4 [(0, .ref (a this))]) : W p l e ({ frames := 0, cells := 0, slots := 0, locals := 0 } : Room) s m args below meth c H locs 0 0 (MQ below (QUi dC dI cy a o M) args s 0 0 (AU a)) (F0 m 30 ls []) := by
  have hx := X.1.1
  have hb := X.1.2.1
  have hown := X.1.2.2.2.1
  have hts := X.1.2.2.2.2
  rw [f_X2_isBehind_L30] at hf
  refine lv_iconst (v := 1) hx hb dX2_isBehind_30 (by decide) ?_
  refine lv_goto (tgt := 35) hx hb dX2_isBehind_31 (by decide) ?_
  exact w_X2_isBehind_L35 X hT hf hG (lv_sub hl [0] rfl)
set_option maxHeartbeats 4000000 in
set_option maxRecDepth 100000 in
theorem w_X2_isBehind_L34 {l : Launch} {dC : Nat → ClassId} {dI : Nat → Nat → Nat} {cy : Nat → ClassId} {a : Nat → Nat} {p : Program} {e : Env} {s : State} {m : MethodId} {args : Array Value} {below : List Frame} {meth : Method} {c : Code} (X : XU dC dI cy a p s m c args meth cX2_isBehind 4 RX2 (some .boolean)) {M : Mem} {this : Nat} (hT : K2 this) {o : Int32} {H : Heap} {locs : List Loc} {ls : Array Slot} (hf : f_X2_isBehind_L34 M this = some o) (hG : GU dC dI cy a s.heap M H locs) (hl : lv_has ls 4 [(0, .ref (a this))]) : W p l e ({ frames := 0, cells := 0, slots := 0, locals := 0 } : Room) s m args below meth c H locs 0 0 (MQ below (QUi dC dI cy a o M) args s 0 0 (AU a)) (F0 m 34 ls []) := by
  have hx := X.1.1
  have hb := X.1.2.1
  have hown := X.1.2.2.2.1
  have hts := X.1.2.2.2.2
  rw [f_X2_isBehind_L34] at hf
  refine lv_iconst (v := 0) hx hb dX2_isBehind_34 (by decide) ?_
  exact w_X2_isBehind_L35 X hT hf hG (lv_sub hl [0] rfl)
set_option maxHeartbeats 4000000 in
set_option maxRecDepth 100000 in
theorem c_X2_isBehind (l : Launch) (dC : Nat → ClassId) (dI : Nat → Nat → Nat) (cy : Nat → ClassId) (a : Nat → Nat) (ha : injU a) (this : Nat) (hT : K2 this) (M : Mem) (v1 : Int32) (v2 : Int32) (v3 : Int32) {o : Int32} (hf : f_X2_isBehind M this v1 v2 v3 = some o) : Met l yX2_isBehind (wsU yX2_isBehind cX2_isBehind 4 (some .boolean)) ({ frames := 0, cells := 0, slots := 0, locals := 0 } : Room) (PU dC dI cy a [.ref (a this), .int v1, .int v2, .int v3] M) (QUi dC dI cy a o M) 0 0 (AU a) := by
  refine mw_met (by decide) ha (Nat.le_of_ble_eq_true rfl) ?_
  intro p e s m below meth c ls X hG hl
  have hl : lv_has ls 4 [(0, .ref (a this)), (1, .int v1), (2, .int v2), (3, .int v3)] := hl
  have X : XU dC dI cy a p s m c [.ref (a this), .int v1, .int v2, .int v3].toArray meth cX2_isBehind 4 RX2 (some .boolean) := X
  have hx := X.1.1
  have hb := X.1.2.1
  have hown := X.1.2.2.2.1
  have hts := X.1.2.2.2.2
  rw [f_X2_isBehind] at hf
  refine lv_aload_n hx hb dX2_isBehind_0 rfl (lv_at hl 0 rfl) ?_
  refine gf_X2_9 X hG hT dX2_isBehind_1 ?_
  refine lv_iload_n hx hb dX2_isBehind_4 rfl (lv_at hl 1 rfl) ?_
  obtain ⟨hi1, hf⟩ := ck_some hf
  refine mw_iald X hG hT.2.1 hi1 dX2_isBehind_5 ?_
  refine lv_iload_n hx hb dX2_isBehind_6 rfl (lv_at hl 2 rfl) ?_
  refine lv_icmp_gt (tgt := 30) hx hb dX2_isBehind_7 (by decide) (fun c2 => ?_) (fun c2 => ?_)
  · have hf := itep c2 hf
    exact w_X2_isBehind_L30 X hT hf hG (lv_sub hl [0] rfl)
  · have hf := iten c2 hf
    refine lv_aload_n hx hb dX2_isBehind_10 rfl (lv_at hl 0 rfl) ?_
    refine gf_X2_9 X hG hT dX2_isBehind_11 ?_
    refine lv_iload_n hx hb dX2_isBehind_14 rfl (lv_at hl 1 rfl) ?_
    obtain ⟨hi3, hf⟩ := ck_some hf
    refine mw_iald X hG hT.2.1 hi3 dX2_isBehind_15 ?_
    refine lv_iload_n hx hb dX2_isBehind_16 rfl (lv_at hl 2 rfl) ?_
    refine lv_icmp_ne (tgt := 34) hx hb dX2_isBehind_17 (by decide) (fun c4 => ?_) (fun c4 => ?_)
    · have hf := iten c4 hf
      exact w_X2_isBehind_L34 X hT hf hG (lv_sub hl [0] rfl)
    · have hf := itep c4 hf
      refine lv_aload_n hx hb dX2_isBehind_20 rfl (lv_at hl 0 rfl) ?_
      refine gf_X2_18 X hG hT dX2_isBehind_21 ?_
      refine lv_iload_n hx hb dX2_isBehind_24 rfl (lv_at hl 1 rfl) ?_
      obtain ⟨hi5, hf⟩ := ck_some hf
      refine mw_iald X hG hT.2.2.2 hi5 dX2_isBehind_25 ?_
      refine lv_iload_n hx hb dX2_isBehind_26 rfl (lv_at hl 3 rfl) ?_
      refine lv_icmp_le (tgt := 34) hx hb dX2_isBehind_27 (by decide) (fun c6 => ?_) (fun c6 => ?_)
      · have hf := itep c6 hf
        exact w_X2_isBehind_L34 X hT hf hG (lv_sub hl [0] rfl)
      · have hf := iten c6 hf
        exact w_X2_isBehind_L30 X hT hf hG (lv_sub hl [0] rfl)
/-! X2_add -/
set_option maxHeartbeats 4000000 in
set_option maxRecDepth 100000 in
theorem w_X2_add_L88 {l : Launch} {dC : Nat → ClassId} {dI : Nat → Nat → Nat} {cy : Nat → ClassId} {a : Nat → Nat} {p : Program} {e : Env} {s : State} {m : MethodId} {args : Array Value} {below : List Frame} {meth : Method} {c : Code} (X : XU dC dI cy a p s m c args meth cX2_add 5 RX2 none) {M : Mem} {this : Nat} (hT : K2 this) {v1 : Int32} {v2 : Int32} {v3 : Int32} {v4 : Int32} {o : Mem} {H : Heap} {locs : List Loc} {ls : Array Slot} (hf : f_X2_add_L88 M this v1 v2 v3 v4 = some o) (hG : GU dC dI cy a s.heap M H locs) (hl : lv_has ls 5 [(0, .ref (a this)), (1, .int v1), (2, .int v2), (3, .int v3), (4, .int v4)]) : W p l e ({ frames := 1, cells := 0, slots := 0, locals := 23 } : Room) s m args below meth c H locs 0 0 (MQ below (QUv dC dI cy a o) args s 0 0 (AU a)) (F0 m 88 ls []) := by
  have hx := X.1.1
  have hb := X.1.2.1
  have hown := X.1.2.2.2.1
  have hts := X.1.2.2.2.2
  rw [f_X2_add_L88] at hf
  refine lv_aload_n hx hb dX2_add_88 rfl (lv_at hl 0 rfl) ?_
  refine gf_X2_9 X hG hT dX2_add_89 ?_
  refine lv_iload hx hb dX2_add_92 (lv_at hl 4 rfl) ?_
  refine lv_iload_n hx hb dX2_add_94 rfl (lv_at hl 1 rfl) ?_
  obtain ⟨hi1, hf⟩ := ck_some hf
  refine mw_iast X hG hT.2.1 hi1 dX2_add_95 (fun M2 H locs eM2 hG => ?_)
  have hf := nm_of eM2 hf
  refine lv_aload_n hx hb dX2_add_96 rfl (lv_at hl 0 rfl) ?_
  refine gf_X2_15 X hG hT dX2_add_97 ?_
  refine lv_iload hx hb dX2_add_100 (lv_at hl 4 rfl) ?_
  refine lv_iload_n hx hb dX2_add_102 rfl (lv_at hl 2 rfl) ?_
  obtain ⟨hi3, hf⟩ := ck_some hf
  refine mw_iast X hG hT.2.2.1 hi3 dX2_add_103 (fun M4 H locs eM4 hG => ?_)
  have hf := nm_of eM4 hf
  refine lv_aload_n hx hb dX2_add_104 rfl (lv_at hl 0 rfl) ?_
  refine gf_X2_18 X hG hT dX2_add_105 ?_
  refine lv_iload hx hb dX2_add_108 (lv_at hl 4 rfl) ?_
  refine lv_iload_n hx hb dX2_add_110 rfl (lv_at hl 3 rfl) ?_
  obtain ⟨hi5, hf⟩ := ck_some hf
  refine mw_iast X hG hT.2.2.2 hi5 dX2_add_111 (fun M6 H locs eM6 hG => ?_)
  have hf := nm_of eM6 hf
  refine lv_aload_n hx hb dX2_add_112 rfl (lv_at hl 0 rfl) ?_
  refine lv_dup hx hb dX2_add_113 rfl ?_
  refine gf_X2_21 X hG hT dX2_add_114 ?_
  refine lv_iconst (v := 1) hx hb dX2_add_117 (by decide) ?_
  refine lv_iadd hx hb dX2_add_118 ?_
  refine pf_X2_21 X hG hT dX2_add_119 (fun M7 H locs eM7 hG => ?_)
  have hf := nm_of eM7 hf
  obtain rfl := Option.some.inj hf
  exact mw_vret X hG dX2_add_122
set_option maxHeartbeats 4000000 in
set_option maxRecDepth 100000 in
theorem w_X2_add_L16 {l : Launch} {dC : Nat → ClassId} {dI : Nat → Nat → Nat} {cy : Nat → ClassId} {a : Nat → Nat} {p : Program} {e : Env} {s : State} {m : MethodId} {args : Array Value} {below : List Frame} {meth : Method} {c : Code} (X : XU dC dI cy a p s m c args meth cX2_add 5 RX2 none) {this : Nat} (hT : K2 this) {v1 : Int32} {v2 : Int32} {v3 : Int32} {o : Mem} : ∀ (n : Nat) (M : Mem) (v4 : Int32) (H : Heap) (locs : List Loc) (ls : Array Slot), f_X2_add_L16 this v1 v2 v3 n M v4 = some o → GU dC dI cy a s.heap M H locs → lv_has ls 5 [(0, .ref (a this)), (1, .int v1), (2, .int v2), (3, .int v3), (4, .int v4)] → W p l e ({ frames := 1, cells := 0, slots := 0, locals := 23 } : Room) s m args below meth c H locs 0 0 (MQ below (QUv dC dI cy a o) args s 0 0 (AU a)) (F0 m 16 ls []) := by
  have hx := X.1.1
  have hb := X.1.2.1
  have hown := X.1.2.2.2.1
  have hts := X.1.2.2.2.2
  intro n
  induction n with
  | zero => intro M v4 H locs ls hf; cases hf
  | succ n ih =>
    intro M v4 H locs ls hf hG hl
    rw [f_X2_add_L16] at hf
    refine lv_iload hx hb dX2_add_16 (lv_at hl 4 rfl) ?_
    refine lv_if_le (tgt := 88) hx hb dX2_add_18 (by decide) (fun c1 => ?_) (fun c1 => ?_)
    · have hf := itep c1 hf
      exact w_X2_add_L88 X hT hf hG (lv_sub hl [0, 1, 2, 3, 4] rfl)
    · have hf := iten c1 hf
      refine lv_aload_n hx hb dX2_add_21 rfl (lv_at hl 0 rfl) ?_
      refine lv_iload hx hb dX2_add_22 (lv_at hl 4 rfl) ?_
      refine lv_iconst (v := 1) hx hb dX2_add_24 (by decide) ?_
      refine lv_isub hx hb dX2_add_25 ?_
      refine lv_iload_n hx hb dX2_add_26 rfl (lv_at hl 1 rfl) ?_
      refine lv_iload_n hx hb dX2_add_27 rfl (lv_at hl 3 rfl) ?_
      obtain ⟨x2, hr3, hf⟩ := bd_some hf
      refine mw_callVi (rest := []) X hG hT.1 rfl (c_X2_isBehind l dC dI cy a X.2.2.1 this hT M (v4 - (1 : Int32)) v1 v3 hr3) (mw_cwV X 3 g_X2_26 hd_X2_isBehind ⟨rfl, rfl⟩ ⟨Nat.le_of_ble_eq_true rfl, Nat.le_of_ble_eq_true rfl⟩) rfl hl.1 rfl (Nat.le_of_ble_eq_true rfl) dX2_add_28 (fun H locs hG => ?_)
      refine lv_if_eq (tgt := 88) hx hb dX2_add_31 (by decide) (fun c4 => ?_) (fun c4 => ?_)
      · have hf := itep c4 hf
        exact w_X2_add_L88 X hT hf hG (lv_sub hl [0, 1, 2, 3, 4] rfl)
      · have hf := iten c4 hf
        refine lv_aload_n hx hb dX2_add_34 rfl (lv_at hl 0 rfl) ?_
        refine gf_X2_9 X hG hT dX2_add_35 ?_
        refine lv_iload hx hb dX2_add_38 (lv_at hl 4 rfl) ?_
        refine lv_aload_n hx hb dX2_add_40 rfl (lv_at hl 0 rfl) ?_
        refine gf_X2_9 X hG hT dX2_add_41 ?_
        refine lv_iload hx hb dX2_add_44 (lv_at hl 4 rfl) ?_
        refine lv_iconst (v := 1) hx hb dX2_add_46 (by decide) ?_
        refine lv_isub hx hb dX2_add_47 ?_
        obtain ⟨hi5, hf⟩ := ck_some hf
        refine mw_iald X hG hT.2.1 hi5 dX2_add_48 ?_
        obtain ⟨hi6, hf⟩ := ck_some hf
        refine mw_iast X hG hT.2.1 hi6 dX2_add_49 (fun M7 H locs eM7 hG => ?_)
        have hf := nm_of eM7 hf
        refine lv_aload_n hx hb dX2_add_50 rfl (lv_at hl 0 rfl) ?_
        refine gf_X2_15 X hG hT dX2_add_51 ?_
        refine lv_iload hx hb dX2_add_54 (lv_at hl 4 rfl) ?_
        refine lv_aload_n hx hb dX2_add_56 rfl (lv_at hl 0 rfl) ?_
        refine gf_X2_15 X hG hT dX2_add_57 ?_
        refine lv_iload hx hb dX2_add_60 (lv_at hl 4 rfl) ?_
        refine lv_iconst (v := 1) hx hb dX2_add_62 (by decide) ?_
        refine lv_isub hx hb dX2_add_63 ?_
        obtain ⟨hi8, hf⟩ := ck_some hf
        refine mw_iald X hG hT.2.2.1 hi8 dX2_add_64 ?_
        obtain ⟨hi9, hf⟩ := ck_some hf
        refine mw_iast X hG hT.2.2.1 hi9 dX2_add_65 (fun M10 H locs eM10 hG => ?_)
        have hf := nm_of eM10 hf
        refine lv_aload_n hx hb dX2_add_66 rfl (lv_at hl 0 rfl) ?_
        refine gf_X2_18 X hG hT dX2_add_67 ?_
        refine lv_iload hx hb dX2_add_70 (lv_at hl 4 rfl) ?_
        refine lv_aload_n hx hb dX2_add_72 rfl (lv_at hl 0 rfl) ?_
        refine gf_X2_18 X hG hT dX2_add_73 ?_
        refine lv_iload hx hb dX2_add_76 (lv_at hl 4 rfl) ?_
        refine lv_iconst (v := 1) hx hb dX2_add_78 (by decide) ?_
        refine lv_isub hx hb dX2_add_79 ?_
        obtain ⟨hi11, hf⟩ := ck_some hf
        refine mw_iald X hG hT.2.2.2 hi11 dX2_add_80 ?_
        obtain ⟨hi12, hf⟩ := ck_some hf
        refine mw_iast X hG hT.2.2.2 hi12 dX2_add_81 (fun M13 H locs eM13 hG => ?_)
        have hf := nm_of eM13 hf
        obtain ⟨x14, ex14⟩ : ∃ y : Int32, y = v4 + (-1 : Int32) := ⟨_, rfl⟩
        have hf := nm_of ex14 hf
        refine lv_iinc (v := x14) (lv' := [(4, .int x14), (0, .ref (a this)), (1, .int v1), (2, .int v2), (3, .int v3)]) hx hb dX2_add_82 hl (k := 4) rfl (by rw [ex14]; rfl) (by decide) rfl (fun ls hl => ?_)
        refine lv_goto (tgt := 16) hx hb dX2_add_85 (by decide) ?_
        exact ih _ _ _ _ _ hf hG (lv_sub hl [1, 2, 3, 4, 0] rfl)
set_option maxHeartbeats 4000000 in
set_option maxRecDepth 100000 in
theorem c_X2_add (l : Launch) (dC : Nat → ClassId) (dI : Nat → Nat → Nat) (cy : Nat → ClassId) (a : Nat → Nat) (ha : injU a) (this : Nat) (hT : K2 this) (M : Mem) (v1 : Int32) (v2 : Int32) (v3 : Int32) {o : Mem} (hf : f_X2_add M this v1 v2 v3 = some o) : Met l yX2_add (wsU yX2_add cX2_add 5 none) ({ frames := 1, cells := 0, slots := 0, locals := 23 } : Room) (PU dC dI cy a [.ref (a this), .int v1, .int v2, .int v3] M) (QUv dC dI cy a o) 0 0 (AU a) := by
  refine mw_met (by decide) ha (Nat.le_of_ble_eq_true rfl) ?_
  intro p e s m below meth c ls X hG hl
  have hl : lv_has ls 5 [(0, .ref (a this)), (1, .int v1), (2, .int v2), (3, .int v3)] := hl
  have X : XU dC dI cy a p s m c [.ref (a this), .int v1, .int v2, .int v3].toArray meth cX2_add 5 RX2 none := X
  have hx := X.1.1
  have hb := X.1.2.1
  have hown := X.1.2.2.2.1
  have hts := X.1.2.2.2.2
  rw [f_X2_add] at hf
  refine lv_aload_n hx hb dX2_add_0 rfl (lv_at hl 0 rfl) ?_
  refine gf_X2_21 X hG hT dX2_add_1 ?_
  refine lv_bipush (v := 30) hx hb dX2_add_4 (by decide) ?_
  refine lv_icmp_lt (tgt := 10) hx hb dX2_add_6 (by decide) (fun c1 => ?_) (fun c1 => ?_)
  · have hf := itep c1 hf
    refine lv_aload_n hx hb dX2_add_10 rfl (lv_at hl 0 rfl) ?_
    refine gf_X2_21 X hG hT dX2_add_11 ?_
    refine lv_topi (fun x2 ex2 => ?_)
    have hf := nm_of ex2 hf
    refine lv_istore (lv' := [(4, .int x2), (0, .ref (a this)), (1, .int v1), (2, .int v2), (3, .int v3)]) hx hb dX2_add_14 hl (by decide) rfl (fun ls hl => ?_)
    exact w_X2_add_L16 X hT 1000 _ _ _ _ _ hf hG (lv_sub hl [1, 2, 3, 4, 0] rfl)
  · have hf := iten c1 hf
    obtain rfl := Option.some.inj hf
    exact mw_vret X hG dX2_add_9
/-! X2_removeFirst -/
set_option maxHeartbeats 4000000 in
set_option maxRecDepth 100000 in
theorem c_X2_removeFirst (l : Launch) (dC : Nat → ClassId) (dI : Nat → Nat → Nat) (cy : Nat → ClassId) (a : Nat → Nat) (ha : injU a) (this : Nat) (hT : K2 this) (M : Mem) {o : Mem} (hf : f_X2_removeFirst M this = some o) : Met l yX2_removeFirst (wsU yX2_removeFirst cX2_removeFirst 1 none) ({ frames := 1, cells := 0, slots := 0, locals := 40 } : Room) (PU dC dI cy a [.ref (a this)] M) (QUv dC dI cy a o) 0 0 (AU a) := by
  refine mw_met (by decide) ha (Nat.le_of_ble_eq_true rfl) ?_
  intro p e s m below meth c ls X hG hl
  have hl : lv_has ls 1 [(0, .ref (a this))] := hl
  have X : XU dC dI cy a p s m c [.ref (a this)].toArray meth cX2_removeFirst 1 RX2 none := X
  have hx := X.1.1
  have hb := X.1.2.1
  have hown := X.1.2.2.2.1
  have hts := X.1.2.2.2.2
  rw [f_X2_removeFirst] at hf
  refine lv_aload_n hx hb dX2_removeFirst_0 rfl (lv_at hl 0 rfl) ?_
  refine gf_X2_21 X hG hT dX2_removeFirst_1 ?_
  refine lv_if_ne (tgt := 8) hx hb dX2_removeFirst_4 (by decide) (fun c1 => ?_) (fun c1 => ?_)
  · have hf := iten c1 hf
    refine lv_aload_n hx hb dX2_removeFirst_8 rfl (lv_at hl 0 rfl) ?_
    refine lv_dup hx hb dX2_removeFirst_9 rfl ?_
    refine gf_X2_21 X hG hT dX2_removeFirst_10 ?_
    refine lv_iconst (v := 1) hx hb dX2_removeFirst_13 (by decide) ?_
    refine lv_isub hx hb dX2_removeFirst_14 ?_
    refine pf_X2_21 X hG hT dX2_removeFirst_15 (fun M2 H locs eM2 hG => ?_)
    have hf := nm_of eM2 hf
    refine lv_aload_n hx hb dX2_removeFirst_18 rfl (lv_at hl 0 rfl) ?_
    refine gf_X2_9 X hG hT dX2_removeFirst_19 ?_
    refine lv_iconst (v := 1) hx hb dX2_removeFirst_22 (by decide) ?_
    refine lv_aload_n hx hb dX2_removeFirst_23 rfl (lv_at hl 0 rfl) ?_
    refine gf_X2_9 X hG hT dX2_removeFirst_24 ?_
    refine lv_iconst (v := 0) hx hb dX2_removeFirst_27 (by decide) ?_
    refine lv_aload_n hx hb dX2_removeFirst_28 rfl (lv_at hl 0 rfl) ?_
    refine gf_X2_21 X hG hT dX2_removeFirst_29 ?_
    obtain ⟨hc3, hf⟩ := cpk_some hf
    refine mw_cp X hG hl.1 hT.2.1 hT.2.1 hc3 wd_ml_X2_30 ⟨Nat.le_of_ble_eq_true rfl, Nat.le_of_ble_eq_true rfl⟩ wd_na_arraycopyName wd_st_arraycopyName wd_ini_java_lang_System dX2_removeFirst_32 (fun M4 H locs eM4 hG => ?_)
    have hf := nm_of eM4 hf
    refine lv_aload_n hx hb dX2_removeFirst_35 rfl (lv_at hl 0 rfl) ?_
    refine gf_X2_15 X hG hT dX2_removeFirst_36 ?_
    refine lv_iconst (v := 1) hx hb dX2_removeFirst_39 (by decide) ?_
    refine lv_aload_n hx hb dX2_removeFirst_40 rfl (lv_at hl 0 rfl) ?_
    refine gf_X2_15 X hG hT dX2_removeFirst_41 ?_
    refine lv_iconst (v := 0) hx hb dX2_removeFirst_44 (by decide) ?_
    refine lv_aload_n hx hb dX2_removeFirst_45 rfl (lv_at hl 0 rfl) ?_
    refine gf_X2_21 X hG hT dX2_removeFirst_46 ?_
    obtain ⟨hc5, hf⟩ := cpk_some hf
    refine mw_cp X hG hl.1 hT.2.2.1 hT.2.2.1 hc5 wd_ml_X2_30 ⟨Nat.le_of_ble_eq_true rfl, Nat.le_of_ble_eq_true rfl⟩ wd_na_arraycopyName wd_st_arraycopyName wd_ini_java_lang_System dX2_removeFirst_49 (fun M6 H locs eM6 hG => ?_)
    have hf := nm_of eM6 hf
    refine lv_aload_n hx hb dX2_removeFirst_52 rfl (lv_at hl 0 rfl) ?_
    refine gf_X2_18 X hG hT dX2_removeFirst_53 ?_
    refine lv_iconst (v := 1) hx hb dX2_removeFirst_56 (by decide) ?_
    refine lv_aload_n hx hb dX2_removeFirst_57 rfl (lv_at hl 0 rfl) ?_
    refine gf_X2_18 X hG hT dX2_removeFirst_58 ?_
    refine lv_iconst (v := 0) hx hb dX2_removeFirst_61 (by decide) ?_
    refine lv_aload_n hx hb dX2_removeFirst_62 rfl (lv_at hl 0 rfl) ?_
    refine gf_X2_21 X hG hT dX2_removeFirst_63 ?_
    obtain ⟨hc7, hf⟩ := cpk_some hf
    refine mw_cp X hG hl.1 hT.2.2.2 hT.2.2.2 hc7 wd_ml_X2_30 ⟨Nat.le_of_ble_eq_true rfl, Nat.le_of_ble_eq_true rfl⟩ wd_na_arraycopyName wd_st_arraycopyName wd_ini_java_lang_System dX2_removeFirst_66 (fun M8 H locs eM8 hG => ?_)
    have hf := nm_of eM8 hf
    obtain rfl := Option.some.inj hf
    exact mw_vret X hG dX2_removeFirst_69
  · have hf := itep c1 hf
    obtain rfl := Option.some.inj hf
    exact mw_vret X hG dX2_removeFirst_7
/-! X2_copyFrom -/
set_option maxHeartbeats 4000000 in
set_option maxRecDepth 100000 in
theorem c_X2_copyFrom (l : Launch) (dC : Nat → ClassId) (dI : Nat → Nat → Nat) (cy : Nat → ClassId) (a : Nat → Nat) (ha : injU a) (this : Nat) (hT : K2 this) (M : Mem) (r1 : Nat) (h1 : K2 r1) {o : Mem} (hf : f_X2_copyFrom M this r1 = some o) : Met l yX2_copyFrom (wsU yX2_copyFrom cX2_copyFrom 2 none) ({ frames := 1, cells := 0, slots := 0, locals := 40 } : Room) (PU dC dI cy a [.ref (a this), .ref (a r1)] M) (QUv dC dI cy a o) 0 0 (AU a) := by
  refine mw_met (by decide) ha (Nat.le_of_ble_eq_true rfl) ?_
  intro p e s m below meth c ls X hG hl
  have hl : lv_has ls 2 [(0, .ref (a this)), (1, .ref (a r1))] := hl
  have X : XU dC dI cy a p s m c [.ref (a this), .ref (a r1)].toArray meth cX2_copyFrom 2 RX2 none := X
  have hx := X.1.1
  have hb := X.1.2.1
  have hown := X.1.2.2.2.1
  have hts := X.1.2.2.2.2
  rw [f_X2_copyFrom] at hf
  refine lv_aload_n hx hb dX2_copyFrom_0 rfl (lv_at hl 1 rfl) ?_
  refine gf_X2_9 X hG h1 dX2_copyFrom_1 ?_
  refine lv_iconst (v := 0) hx hb dX2_copyFrom_4 (by decide) ?_
  refine lv_aload_n hx hb dX2_copyFrom_5 rfl (lv_at hl 0 rfl) ?_
  refine gf_X2_9 X hG hT dX2_copyFrom_6 ?_
  refine lv_iconst (v := 0) hx hb dX2_copyFrom_9 (by decide) ?_
  refine lv_aload_n hx hb dX2_copyFrom_10 rfl (lv_at hl 1 rfl) ?_
  refine gf_X2_21 X hG h1 dX2_copyFrom_11 ?_
  obtain ⟨hc1, hf⟩ := cpk_some hf
  refine mw_cp X hG hl.1 h1.2.1 hT.2.1 hc1 wd_ml_X2_30 ⟨Nat.le_of_ble_eq_true rfl, Nat.le_of_ble_eq_true rfl⟩ wd_na_arraycopyName wd_st_arraycopyName wd_ini_java_lang_System dX2_copyFrom_14 (fun M2 H locs eM2 hG => ?_)
  have hf := nm_of eM2 hf
  refine lv_aload_n hx hb dX2_copyFrom_17 rfl (lv_at hl 1 rfl) ?_
  refine gf_X2_15 X hG h1 dX2_copyFrom_18 ?_
  refine lv_iconst (v := 0) hx hb dX2_copyFrom_21 (by decide) ?_
  refine lv_aload_n hx hb dX2_copyFrom_22 rfl (lv_at hl 0 rfl) ?_
  refine gf_X2_15 X hG hT dX2_copyFrom_23 ?_
  refine lv_iconst (v := 0) hx hb dX2_copyFrom_26 (by decide) ?_
  refine lv_aload_n hx hb dX2_copyFrom_27 rfl (lv_at hl 1 rfl) ?_
  refine gf_X2_21 X hG h1 dX2_copyFrom_28 ?_
  obtain ⟨hc3, hf⟩ := cpk_some hf
  refine mw_cp X hG hl.1 h1.2.2.1 hT.2.2.1 hc3 wd_ml_X2_30 ⟨Nat.le_of_ble_eq_true rfl, Nat.le_of_ble_eq_true rfl⟩ wd_na_arraycopyName wd_st_arraycopyName wd_ini_java_lang_System dX2_copyFrom_31 (fun M4 H locs eM4 hG => ?_)
  have hf := nm_of eM4 hf
  refine lv_aload_n hx hb dX2_copyFrom_34 rfl (lv_at hl 1 rfl) ?_
  refine gf_X2_18 X hG h1 dX2_copyFrom_35 ?_
  refine lv_iconst (v := 0) hx hb dX2_copyFrom_38 (by decide) ?_
  refine lv_aload_n hx hb dX2_copyFrom_39 rfl (lv_at hl 0 rfl) ?_
  refine gf_X2_18 X hG hT dX2_copyFrom_40 ?_
  refine lv_iconst (v := 0) hx hb dX2_copyFrom_43 (by decide) ?_
  refine lv_aload_n hx hb dX2_copyFrom_44 rfl (lv_at hl 1 rfl) ?_
  refine gf_X2_21 X hG h1 dX2_copyFrom_45 ?_
  obtain ⟨hc5, hf⟩ := cpk_some hf
  refine mw_cp X hG hl.1 h1.2.2.2 hT.2.2.2 hc5 wd_ml_X2_30 ⟨Nat.le_of_ble_eq_true rfl, Nat.le_of_ble_eq_true rfl⟩ wd_na_arraycopyName wd_st_arraycopyName wd_ini_java_lang_System dX2_copyFrom_48 (fun M6 H locs eM6 hG => ?_)
  have hf := nm_of eM6 hf
  refine lv_aload_n hx hb dX2_copyFrom_51 rfl (lv_at hl 0 rfl) ?_
  refine lv_aload_n hx hb dX2_copyFrom_52 rfl (lv_at hl 1 rfl) ?_
  refine gf_X2_21 X hG h1 dX2_copyFrom_53 ?_
  refine pf_X2_21 X hG hT dX2_copyFrom_56 (fun M7 H locs eM7 hG => ?_)
  have hf := nm_of eM7 hf
  obtain rfl := Option.some.inj hf
  exact mw_vret X hG dX2_copyFrom_59
