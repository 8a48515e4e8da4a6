/-! X5_in -/
set_option maxHeartbeats 4000000 in
set_option maxRecDepth 100000 in
theorem w_X5_in_L18 {l : Launch} {dC : Nat → ClassId} {dI : Nat → Nat → Nat} {cy : Nat → ClassId} {a : Nat → Nat} {p : Program} {e : Env} {s : State} {m : MethodId} {args : Array Value} {below : List Frame} {meth : Method} {c : Code} (X : XU dC dI cy a p s m c args meth cX5_in 6 RX5 (some .boolean)) {M : Mem} {s0 : Int32} {o : Int32} {H : Heap} {locs : List Loc} {ls : Array Slot} (hf : f_X5_in_L18 s0 = some o) (hG : GU dC dI cy a s.heap M H locs) (hl : lv_has ls 6 []) : W p l e ({ frames := 0, cells := 0, slots := 0, locals := 0 } : Room) s m args below meth c H locs 0 0 (MQ below (QUi dC dI cy a o M) args s 0 0 (AU a)) (F0 m 18 ls [.int s0]) := by
  have hx := X.1.1
  have hb := X.1.2.1
  have hown := X.1.2.2.2.1
  have hts := X.1.2.2.2.2
  rw [f_X5_in_L18] at hf
  obtain ⟨hz1, hf⟩ := zk_some hf
  obtain rfl := Option.some.inj hf
  exact mw_zret X hG (zk_nar hz1) dX5_in_18
set_option maxHeartbeats 4000000 in
set_option maxRecDepth 100000 in
theorem w_X5_in_L17 {l : Launch} {dC : Nat → ClassId} {dI : Nat → Nat → Nat} {cy : Nat → ClassId} {a : Nat → Nat} {p : Program} {e : Env} {s : State} {m : MethodId} {args : Array Value} {below : List Frame} {meth : Method} {c : Code} (X : XU dC dI cy a p s m c args meth cX5_in 6 RX5 (some .boolean)) {M : Mem} {o : Int32} {H : Heap} {locs : List Loc} {ls : Array Slot} (hf : f_X5_in_L17  = some o) (hG : GU dC dI cy a s.heap M H locs) (hl : lv_has ls 6 []) : W p l e ({ frames := 0, cells := 0, slots := 0, locals := 0 } : Room) s m args below meth c H locs 0 0 (MQ below (QUi dC dI cy a o M) args s 0 0 (AU a)) (F0 m 17 ls []) := by
  have hx := X.1.1
  have hb := X.1.2.1
  have hown := X.1.2.2.2.1
  have hts := X.1.2.2.2.2
  rw [f_X5_in_L17] at hf
  refine lv_iconst (v := 0) hx hb dX5_in_17 (by decide) ?_
  exact w_X5_in_L18 X hf hG (lv_sub hl [] rfl)
set_option maxHeartbeats 4000000 in
set_option maxRecDepth 100000 in
theorem c_X5_in (l : Launch) (dC : Nat → ClassId) (dI : Nat → Nat → Nat) (cy : Nat → ClassId) (a : Nat → Nat) (ha : injU a) (M : Mem) (l0 : Int64) (l2 : Int64) (l4 : Int64) {o : Int32} (hf : f_X5_in l0 l2 l4 = some o) : Met l yX5_in (wsU yX5_in cX5_in 6 (some .boolean)) ({ frames := 0, cells := 0, slots := 0, locals := 0 } : Room) (PU dC dI cy a [.long l0, .long l2, .long l4] M) (QUi dC dI cy a o M) 0 0 (AU a) := by
  refine mw_met (by decide) ha (Nat.le_of_ble_eq_true rfl) ?_
  intro p e s m below meth c ls X hG hl
  have hl : lv_has ls 6 [(0, .long l0), (2, .long l2), (4, .long l4)] := hl
  have X : XU dC dI cy a p s m c [.long l0, .long l2, .long l4].toArray meth cX5_in 6 RX5 (some .boolean) := X
  have hx := X.1.1
  have hb := X.1.2.1
  have hown := X.1.2.2.2.1
  have hts := X.1.2.2.2.2
  rw [f_X5_in] at hf
  refine lv_lload_n hx hb dX5_in_0 rfl (lv_at hl 0 rfl) ?_
  refine lv_lload_n hx hb dX5_in_1 rfl (lv_at hl 1 rfl) ?_
  refine W.lcmp hx hb dX5_in_2 ?_
  refine lv_if_lt (tgt := 17) hx hb dX5_in_3 (by decide) (fun c1 => ?_) (fun c1 => ?_)
  · have hf := itep c1 hf
    exact w_X5_in_L17 X hf hG (lv_sub hl [] rfl)
  · have hf := iten c1 hf
    refine lv_lload_n hx hb dX5_in_6 rfl (lv_at hl 0 rfl) ?_
    refine lv_lload hx hb dX5_in_7 (lv_at hl 2 rfl) ?_
    refine W.lcmp hx hb dX5_in_9 ?_
    refine lv_if_gt (tgt := 17) hx hb dX5_in_10 (by decide) (fun c2 => ?_) (fun c2 => ?_)
    · have hf := itep c2 hf
      exact w_X5_in_L17 X hf hG (lv_sub hl [] rfl)
    · have hf := iten c2 hf
      refine lv_iconst (v := 1) hx hb dX5_in_13 (by decide) ?_
      refine lv_goto (tgt := 18) hx hb dX5_in_14 (by decide) ?_
      exact w_X5_in_L18 X hf hG (lv_sub hl [] rfl)
/-! X5_has -/
set_option maxHeartbeats 4000000 in
set_option maxRecDepth 100000 in
theorem w_X5_has_L14 {l : Launch} {dC : Nat → ClassId} {dI : Nat → Nat → Nat} {cy : Nat → ClassId} {a : Nat → Nat} {p : Program} {e : Env} {s : State} {m : MethodId} {args : Array Value} {below : List Frame} {meth : Method} {c : Code} (X : XU dC dI cy a p s m c args meth cX5_has 2 RX5 (some .boolean)) {M : Mem} {s0 : Int32} {o : Int32} {H : Heap} {locs : List Loc} {ls : Array Slot} (hf : f_X5_has_L14 s0 = some o) (hG : GU dC dI cy a s.heap M H locs) (hl : lv_has ls 2 []) : W p l e ({ frames := 0, cells := 0, slots := 0, locals := 0 } : Room) s m args below meth c H locs 0 0 (MQ below (QUi dC dI cy a o M) args s 0 0 (AU a)) (F0 m 14 ls [.int s0]) := by
  have hx := X.1.1
  have hb := X.1.2.1
  have hown := X.1.2.2.2.1
  have hts := X.1.2.2.2.2
  rw [f_X5_has_L14] at hf
  obtain ⟨hz1, hf⟩ := zk_some hf
  obtain rfl := Option.some.inj hf
  exact mw_zret X hG (zk_nar hz1) dX5_has_14
set_option maxHeartbeats 4000000 in
set_option maxRecDepth 100000 in
theorem c_X5_has (l : Launch) (dC : Nat → ClassId) (dI : Nat → Nat → Nat) (cy : Nat → ClassId) (a : Nat → Nat) (ha : injU a) (M : Mem) (v0 : Int32) (v1 : Int32) {o : Int32} (hf : f_X5_has v0 v1 = some o) : Met l yX5_has (wsU yX5_has cX5_has 2 (some .boolean)) ({ frames := 0, cells := 0, slots := 0, locals := 0 } : Room) (PU dC dI cy a [.int v0, .int v1] M) (QUi dC dI cy a o M) 0 0 (AU a) := by
  refine mw_met (by decide) ha (Nat.le_of_ble_eq_true rfl) ?_
  intro p e s m below meth c ls X hG hl
  have hl : lv_has ls 2 [(0, .int v0), (1, .int v1)] := hl
  have X : XU dC dI cy a p s m c [.int v0, .int v1].toArray meth cX5_has 2 RX5 (some .boolean) := X
  have hx := X.1.1
  have hb := X.1.2.1
  have hown := X.1.2.2.2.1
  have hts := X.1.2.2.2.2
  rw [f_X5_has] at hf
  refine lv_iload_n hx hb dX5_has_0 rfl (lv_at hl 0 rfl) ?_
  refine lv_iload_n hx hb dX5_has_1 rfl (lv_at hl 1 rfl) ?_
  refine lv_ishr hx hb dX5_has_2 ?_
  refine lv_iconst (v := 1) hx hb dX5_has_3 (by decide) ?_
  refine lv_iand hx hb dX5_has_4 ?_
  refine lv_iconst (v := 1) hx hb dX5_has_5 (by decide) ?_
  refine lv_icmp_ne (tgt := 13) hx hb dX5_has_6 (by decide) (fun c1 => ?_) (fun c1 => ?_)
  · have hf := iten c1 hf
    refine lv_iconst (v := 0) hx hb dX5_has_13 (by decide) ?_
    exact w_X5_has_L14 X hf hG (lv_sub hl [] rfl)
  · have hf := itep c1 hf
    refine lv_iconst (v := 1) hx hb dX5_has_9 (by decide) ?_
    refine lv_goto (tgt := 14) hx hb dX5_has_10 (by decide) ?_
    exact w_X5_has_L14 X hf hG (lv_sub hl [] rfl)
/-! X5_copy -/
set_option maxHeartbeats 4000000 in
set_option maxRecDepth 100000 in
theorem w_X5_copy_L2 {l : Launch} {dC : Nat → ClassId} {dI : Nat → Nat → Nat} {cy : Nat → ClassId} {a : Nat → Nat} {p : Program} {e : Env} {s : State} {m : MethodId} {args : Array Value} {below : List Frame} {meth : Method} {c : Code} (X : XU dC dI cy a p s m c args meth cX5_copy 4 RX5 none) {this : Nat} (hT : K5 this) {v1 : Int32} {v2 : Int32} {o : Mem} : ∀ (n : Nat) (M : Mem) (v3 : Int32) (H : Heap) (locs : List Loc) (ls : Array Slot), f_X5_copy_L2 this v1 v2 n M v3 = some o → GU dC dI cy a s.heap M H locs → lv_has ls 4 [(0, .ref (a this)), (1, .int v1), (2, .int v2), (3, .int v3)] → W p l e ({ frames := 0, cells := 0, slots := 0, locals := 0 } : Room) s m args below meth c H locs 0 0 (MQ below (QUv dC dI cy a o) args s 0 0 (AU a)) (F0 m 2 ls []) := by
  have hx := X.1.1
  have hb := X.1.2.1
  have hown := X.1.2.2.2.1
  have hts := X.1.2.2.2.2
  intro n
  induction n with
  | zero => intro M v3 H locs ls hf; cases hf
  | succ n ih =>
    intro M v3 H locs ls hf hG hl
    rw [f_X5_copy_L2] at hf
    refine lv_iload_n hx hb dX5_copy_2 rfl (lv_at hl 3 rfl) ?_
    refine lv_sipush (v := 262) hx hb dX5_copy_3 (by decide) ?_
    refine lv_icmp_ge (tgt := 31) hx hb dX5_copy_6 (by decide) (fun c1 => ?_) (fun c1 => ?_)
    · have hf := itep c1 hf
      obtain rfl := Option.some.inj hf
      exact mw_vret X hG dX5_copy_31
    · have hf := iten c1 hf
      refine lv_aload_n hx hb dX5_copy_9 rfl (lv_at hl 0 rfl) ?_
      refine gf_X5_7 X hG hT dX5_copy_10 ?_
      refine lv_iload_n hx hb dX5_copy_13 rfl (lv_at hl 2 rfl) ?_
      refine lv_iload_n hx hb dX5_copy_14 rfl (lv_at hl 3 rfl) ?_
      refine lv_iadd hx hb dX5_copy_15 ?_
      refine lv_aload_n hx hb dX5_copy_16 rfl (lv_at hl 0 rfl) ?_
      refine gf_X5_7 X hG hT dX5_copy_17 ?_
      refine lv_iload_n hx hb dX5_copy_20 rfl (lv_at hl 1 rfl) ?_
      refine lv_iload_n hx hb dX5_copy_21 rfl (lv_at hl 3 rfl) ?_
      refine lv_iadd hx hb dX5_copy_22 ?_
      obtain ⟨hi2, hf⟩ := ck_some hf
      refine mw_iald X hG hT.2.1 hi2 dX5_copy_23 ?_
      obtain ⟨hi3, hf⟩ := ck_some hf
      refine mw_iast X hG hT.2.1 hi3 dX5_copy_24 (fun M4 H locs eM4 hG => ?_)
      have hf := nm_of eM4 hf
      obtain ⟨x5, ex5⟩ : ∃ y : Int32, y = v3 + (1 : Int32) := ⟨_, rfl⟩
      have hf := nm_of ex5 hf
      refine lv_iinc (v := x5) (lv' := [(3, .int x5), (0, .ref (a this)), (1, .int v1), (2, .int v2)]) hx hb dX5_copy_25 hl (k := 3) rfl (by rw [ex5]; rfl) (by decide) rfl (fun ls hl => ?_)
      refine lv_goto (tgt := 2) hx hb dX5_copy_28 (by decide) ?_
      exact ih _ _ _ _ _ hf hG (lv_sub hl [1, 2, 3, 0] rfl)
set_option maxHeartbeats 4000000 in
set_option maxRecDepth 100000 in
theorem c_X5_copy (l : Launch) (dC : Nat → ClassId) (dI : Nat → Nat → Nat) (cy : Nat → ClassId) (a : Nat → Nat) (ha : injU a) (this : Nat) (hT : K5 this) (M : Mem) (v1 : Int32) (v2 : Int32) {o : Mem} (hf : f_X5_copy M this v1 v2 = some o) : Met l yX5_copy (wsU yX5_copy cX5_copy 4 none) ({ frames := 0, cells := 0, slots := 0, locals := 0 } : Room) (PU dC dI cy a [.ref (a this), .int v1, .int v2] M) (QUv dC dI cy a o) 0 0 (AU a) := by
  refine mw_met (by decide) ha (Nat.le_of_ble_eq_true rfl) ?_
  intro p e s m below meth c ls X hG hl
  have hl : lv_has ls 4 [(0, .ref (a this)), (1, .int v1), (2, .int v2)] := hl
  have X : XU dC dI cy a p s m c [.ref (a this), .int v1, .int v2].toArray meth cX5_copy 4 RX5 none := X
  have hx := X.1.1
  have hb := X.1.2.1
  have hown := X.1.2.2.2.1
  have hts := X.1.2.2.2.2
  rw [f_X5_copy] at hf
  refine lv_iconst (v := 0) hx hb dX5_copy_0 (by decide) ?_
  refine lv_istore_n (lv' := [(3, .int (0 : Int32)), (0, .ref (a this)), (1, .int v1), (2, .int v2)]) hx hb dX5_copy_1 rfl hl (by decide) rfl (fun ls hl => ?_)
  exact w_X5_copy_L2 X hT 1000 _ _ _ _ _ hf hG (lv_sub hl [1, 2, 3, 0] rfl)
/-! X5_isPart -/
set_option maxHeartbeats 4000000 in
set_option maxRecDepth 100000 in
theorem c_X5_isPart (l : Launch) (dC : Nat → ClassId) (dI : Nat → Nat → Nat) (cy : Nat → ClassId) (a : Nat → Nat) (ha : injU a) (this : Nat) (hT : K5 this) (M : Mem) (v1 : Int32) {o : Int32} (hf : f_X5_isPart M this v1 = some o) : Met l yX5_isPart (wsU yX5_isPart cX5_isPart 2 (some .boolean)) ({ frames := 1, cells := 0, slots := 0, locals := 25 } : Room) (PU dC dI cy a [.ref (a this), .int v1] M) (QUi dC dI cy a o M) 0 0 (AU a) := by
  refine mw_met (by decide) ha (Nat.le_of_ble_eq_true rfl) ?_
  intro p e s m below meth c ls X hG hl
  have hl : lv_has ls 2 [(0, .ref (a this)), (1, .int v1)] := hl
  have X : XU dC dI cy a p s m c [.ref (a this), .int v1].toArray meth cX5_isPart 2 RX5 (some .boolean) := X
  have hx := X.1.1
  have hb := X.1.2.1
  have hown := X.1.2.2.2.1
  have hts := X.1.2.2.2.2
  rw [f_X5_isPart] at hf
  refine lv_iload_n hx hb dX5_isPart_0 rfl (lv_at hl 1 rfl) ?_
  refine lv_i2l (v := v1.toInt64) hx hb dX5_isPart_1 rfl ?_
  refine lv_lconst (v := 0) hx hb dX5_isPart_2 (by decide) ?_
  refine lv_aload_n hx hb dX5_isPart_3 rfl (lv_at hl 0 rfl) ?_
  refine gf_X5_7 X hG hT dX5_isPart_4 ?_
  refine lv_iconst (v := 0) hx hb dX5_isPart_7 (by decide) ?_
  obtain ⟨hi1, hf⟩ := ck_some hf
  refine mw_iald X hG hT.2.1 hi1 dX5_isPart_8 ?_
  refine lv_iconst (v := 1) hx hb dX5_isPart_9 (by decide) ?_
  refine lv_isub hx hb dX5_isPart_10 ?_
  refine lv_i2l (v := ((rd M (this + 1) (0 : Int32).toNatClampNeg) - (1 : Int32)).toInt64) hx hb dX5_isPart_11 rfl ?_
  obtain ⟨x2, hr3, hf⟩ := bd_some hf
  refine mw_callSi (rest := []) X hG (c_X5_in l dC dI cy a X.2.2.1  M (v1.toInt64) (0 : Int64) (((rd M (this + 1) (0 : Int32).toNatClampNeg) - (1 : Int32)).toInt64) hr3) (mw_cwS X 3 g_X5_23 hd_X5_in ⟨rfl, rfl⟩ ⟨Nat.le_of_ble_eq_true rfl, Nat.le_of_ble_eq_true rfl⟩) rfl hl.1 rfl (Nat.le_of_ble_eq_true rfl) dX5_isPart_12 (fun H locs hG => ?_)
  obtain ⟨hz4, hf⟩ := zk_some hf
  obtain rfl := Option.some.inj hf
  exact mw_zret X hG (zk_nar hz4) dX5_isPart_15
/-! X5_isChannel -/
set_option maxHeartbeats 4000000 in
set_option maxRecDepth 100000 in
theorem c_X5_isChannel (l : Launch) (dC : Nat → ClassId) (dI : Nat → Nat → Nat) (cy : Nat → ClassId) (a : Nat → Nat) (ha : injU a) (this : Nat) (hT : K5 this) (M : Mem) (v1 : Int32) {o : Int32} (hf : f_X5_isChannel M this v1 = some o) : Met l yX5_isChannel (wsU yX5_isChannel cX5_isChannel 2 (some .boolean)) ({ frames := 1, cells := 0, slots := 0, locals := 25 } : Room) (PU dC dI cy a [.ref (a this), .int v1] M) (QUi dC dI cy a o M) 0 0 (AU a) := by
  refine mw_met (by decide) ha (Nat.le_of_ble_eq_true rfl) ?_
  intro p e s m below meth c ls X hG hl
  have hl : lv_has ls 2 [(0, .ref (a this)), (1, .int v1)] := hl
  have X : XU dC dI cy a p s m c [.ref (a this), .int v1].toArray meth cX5_isChannel 2 RX5 (some .boolean) := X
  have hx := X.1.1
  have hb := X.1.2.1
  have hown := X.1.2.2.2.1
  have hts := X.1.2.2.2.2
  rw [f_X5_isChannel] at hf
  refine lv_iload_n hx hb dX5_isChannel_0 rfl (lv_at hl 1 rfl) ?_
  refine lv_i2l (v := v1.toInt64) hx hb dX5_isChannel_1 rfl ?_
  refine lv_lconst (v := 0) hx hb dX5_isChannel_2 (by decide) ?_
  refine lv_aload_n hx hb dX5_isChannel_3 rfl (lv_at hl 0 rfl) ?_
  refine gf_X5_7 X hG hT dX5_isChannel_4 ?_
  refine lv_iconst (v := 1) hx hb dX5_isChannel_7 (by decide) ?_
  obtain ⟨hi1, hf⟩ := ck_some hf
  refine mw_iald X hG hT.2.1 hi1 dX5_isChannel_8 ?_
  refine lv_iconst (v := 1) hx hb dX5_isChannel_9 (by decide) ?_
  refine lv_isub hx hb dX5_isChannel_10 ?_
  refine lv_i2l (v := ((rd M (this + 1) (1 : Int32).toNatClampNeg) - (1 : Int32)).toInt64) hx hb dX5_isChannel_11 rfl ?_
  obtain ⟨x2, hr3, hf⟩ := bd_some hf
  refine mw_callSi (rest := []) X hG (c_X5_in l dC dI cy a X.2.2.1  M (v1.toInt64) (0 : Int64) (((rd M (this + 1) (1 : Int32).toNatClampNeg) - (1 : Int32)).toInt64) hr3) (mw_cwS X 3 g_X5_23 hd_X5_in ⟨rfl, rfl⟩ ⟨Nat.le_of_ble_eq_true rfl, Nat.le_of_ble_eq_true rfl⟩) rfl hl.1 rfl (Nat.le_of_ble_eq_true rfl) dX5_isChannel_12 (fun H locs hG => ?_)
  obtain ⟨hz4, hf⟩ := zk_some hf
  obtain rfl := Option.some.inj hf
  exact mw_zret X hG (zk_nar hz4) dX5_isChannel_15
/-! X5_at -/
set_option maxHeartbeats 4000000 in
set_option maxRecDepth 100000 in
theorem c_X5_at (l : Launch) (dC : Nat → ClassId) (dI : Nat → Nat → Nat) (cy : Nat → ClassId) (a : Nat → Nat) (ha : injU a) (M : Mem) (v0 : Int32) (v1 : Int32) {o : Int32} (hf : f_X5_at v0 v1 = some o) : Met l yX5_at (wsU yX5_at cX5_at 2 (some .int)) ({ frames := 0, cells := 0, slots := 0, locals := 0 } : Room) (PU dC dI cy a [.int v0, .int v1] M) (QUi dC dI cy a o M) 0 0 (AU a) := by
  refine mw_met (by decide) ha (Nat.le_of_ble_eq_true rfl) ?_
  intro p e s m below meth c ls X hG hl
  have hl : lv_has ls 2 [(0, .int v0), (1, .int v1)] := hl
  have X : XU dC dI cy a p s m c [.int v0, .int v1].toArray meth cX5_at 2 RX5 (some .int) := X
  have hx := X.1.1
  have hb := X.1.2.1
  have hown := X.1.2.2.2.1
  have hts := X.1.2.2.2.2
  rw [f_X5_at] at hf
  refine lv_iload_n hx hb dX5_at_0 rfl (lv_at hl 0 rfl) ?_
  refine lv_bipush (v := 28) hx hb dX5_at_1 (by decide) ?_
  refine lv_iadd hx hb dX5_at_3 ?_
  refine lv_bipush (v := 7) hx hb dX5_at_4 (by decide) ?_
  refine lv_iload_n hx hb dX5_at_6 rfl (lv_at hl 1 rfl) ?_
  refine lv_imul hx hb dX5_at_7 ?_
  refine lv_iadd hx hb dX5_at_8 ?_
  obtain rfl := Option.some.inj hf
  exact mw_iret X hG dX5_at_9
/-! X5_parts -/
set_option maxHeartbeats 4000000 in
set_option maxRecDepth 100000 in
theorem w_X5_parts_L32 {l : Launch} {dC : Nat → ClassId} {dI : Nat → Nat → Nat} {cy : Nat → ClassId} {a : Nat → Nat} {p : Program} {e : Env} {s : State} {m : MethodId} {args : Array Value} {below : List Frame} {meth : Method} {c : Code} (X : XU dC dI cy a p s m c args meth cX5_parts 5 RX5 (some .int)) {this : Nat} (hT : K5 this) {v1 : Int32} {v2 : Int32} {v3 : Int32} {o : (Int32 × Mem)} : ∀ (n : Nat) (M : Mem) (v4 : Int32) (H : Heap) (locs : List Loc) (ls : Array Slot), f_X5_parts_L32 this v1 v2 v3 n M v4 = some o → GU dC dI cy a s.heap M H locs → lv_has ls 5 [(0, .ref (a this)), (1, .int v1), (2, .int v2), (3, .int v3), (4, .int v4)] → W p l e ({ frames := 1, cells := 0, slots := 0, locals := 25 } : Room) s m args below meth c H locs 0 0 (MQ below (QUi dC dI cy a o.1 o.2) args s 0 0 (AU a)) (F0 m 32 ls []) := by
  have hx := X.1.1
  have hb := X.1.2.1
  have hown := X.1.2.2.2.1
  have hts := X.1.2.2.2.2
  intro n
  induction n with
  | zero => intro M v4 H locs ls hf; cases hf
  | succ n ih =>
    intro M v4 H locs ls hf hG hl
    rw [f_X5_parts_L32] at hf
    refine lv_iload hx hb dX5_parts_32 (lv_at hl 4 rfl) ?_
    refine lv_sipush (v := 262) hx hb dX5_parts_34 (by decide) ?_
    refine lv_icmp_ge (tgt := 54) hx hb dX5_parts_37 (by decide) (fun c1 => ?_) (fun c1 => ?_)
    · have hf := itep c1 hf
      refine lv_aload_n hx hb dX5_parts_54 rfl (lv_at hl 0 rfl) ?_
      refine gf_X5_7 X hG hT dX5_parts_55 ?_
      refine lv_iconst (v := 0) hx hb dX5_parts_58 (by decide) ?_
      refine lv_iload_n hx hb dX5_parts_59 rfl (lv_at hl 1 rfl) ?_
      obtain ⟨hi2, hf⟩ := ck_some hf
      refine mw_iast X hG hT.2.1 hi2 dX5_parts_60 (fun M3 H locs eM3 hG => ?_)
      have hf := nm_of eM3 hf
      refine lv_aload_n hx hb dX5_parts_61 rfl (lv_at hl 0 rfl) ?_
      refine gf_X5_7 X hG hT dX5_parts_62 ?_
      refine lv_iconst (v := 2) hx hb dX5_parts_65 (by decide) ?_
      refine lv_iload_n hx hb dX5_parts_66 rfl (lv_at hl 3 rfl) ?_
      obtain ⟨hi4, hf⟩ := ck_some hf
      refine mw_iast X hG hT.2.1 hi4 dX5_parts_67 (fun M5 H locs eM5 hG => ?_)
      have hf := nm_of eM5 hf
      refine lv_aload_n hx hb dX5_parts_68 rfl (lv_at hl 0 rfl) ?_
      refine lv_iconst (v := 0) hx hb dX5_parts_69 (by decide) ?_
      refine pf_X5_30 X hG hT dX5_parts_70 (fun M6 H locs eM6 hG => ?_)
      have hf := nm_of eM6 hf
      refine lv_aload_n hx hb dX5_parts_73 rfl (lv_at hl 0 rfl) ?_
      refine gf_X5_13 X hG hT dX5_parts_74 ?_
      refine lv_iconst (v := 0) hx hb dX5_parts_77 (by decide) ?_
      refine lv_iconst (v := 0) hx hb dX5_parts_78 (by decide) ?_
      obtain ⟨hi7, hf⟩ := ck_some hf
      refine mw_zast X hG hT.2.2.1 (by decide) (by decide) hi7 dX5_parts_79 (fun M8 H locs eM8 hG => ?_)
      have hf := nm_of eM8 hf
      refine lv_aload_n hx hb dX5_parts_80 rfl (lv_at hl 0 rfl) ?_
      refine gf_X5_13 X hG hT dX5_parts_81 ?_
      refine lv_iconst (v := 1) hx hb dX5_parts_84 (by decide) ?_
      refine lv_iconst (v := 0) hx hb dX5_parts_85 (by decide) ?_
      obtain ⟨hi9, hf⟩ := ck_some hf
      refine mw_zast X hG hT.2.2.1 (by decide) (by decide) hi9 dX5_parts_86 (fun M10 H locs eM10 hG => ?_)
      have hf := nm_of eM10 hf
      refine lv_iload_n hx hb dX5_parts_87 rfl (lv_at hl 2 rfl) ?_
      obtain rfl := Option.some.inj hf
      exact mw_iret X hG dX5_parts_88
    · have hf := iten c1 hf
      refine lv_aload_n hx hb dX5_parts_40 rfl (lv_at hl 0 rfl) ?_
      refine gf_X5_7 X hG hT dX5_parts_41 ?_
      refine lv_iload hx hb dX5_parts_44 (lv_at hl 4 rfl) ?_
      refine lv_iconst (v := 0) hx hb dX5_parts_46 (by decide) ?_
      obtain ⟨hi11, hf⟩ := ck_some hf
      refine mw_iast X hG hT.2.1 hi11 dX5_parts_47 (fun M12 H locs eM12 hG => ?_)
      have hf := nm_of eM12 hf
      obtain ⟨x13, ex13⟩ : ∃ y : Int32, y = v4 + (1 : Int32) := ⟨_, rfl⟩
      have hf := nm_of ex13 hf
      refine lv_iinc (v := x13) (lv' := [(4, .int x13), (0, .ref (a this)), (1, .int v1), (2, .int v2), (3, .int v3)]) hx hb dX5_parts_48 hl (k := 4) rfl (by rw [ex13]; rfl) (by decide) rfl (fun ls hl => ?_)
      refine lv_goto (tgt := 32) hx hb dX5_parts_51 (by decide) ?_
      exact ih _ _ _ _ _ hf hG (lv_sub hl [1, 2, 3, 4, 0] rfl)
set_option maxHeartbeats 4000000 in
set_option maxRecDepth 100000 in
theorem c_X5_parts (l : Launch) (dC : Nat → ClassId) (dI : Nat → Nat → Nat) (cy : Nat → ClassId) (a : Nat → Nat) (ha : injU a) (this : Nat) (hT : K5 this) (M : Mem) (v1 : Int32) {o : (Int32 × Mem)} (hf : f_X5_parts M this v1 = some o) : Met l yX5_parts (wsU yX5_parts cX5_parts 5 (some .int)) ({ frames := 1, cells := 0, slots := 0, locals := 25 } : Room) (PU dC dI cy a [.ref (a this), .int v1] M) (QUi dC dI cy a o.1 o.2) 0 0 (AU a) := by
  refine mw_met (by decide) ha (Nat.le_of_ble_eq_true rfl) ?_
  intro p e s m below meth c ls X hG hl
  have hl : lv_has ls 5 [(0, .ref (a this)), (1, .int v1)] := hl
  have X : XU dC dI cy a p s m c [.ref (a this), .int v1].toArray meth cX5_parts 5 RX5 (some .int) := X
  have hx := X.1.1
  have hb := X.1.2.1
  have hown := X.1.2.2.2.1
  have hts := X.1.2.2.2.2
  rw [f_X5_parts] at hf
  refine lv_iload_n hx hb dX5_parts_0 rfl (lv_at hl 1 rfl) ?_
  refine lv_i2l (v := v1.toInt64) hx hb dX5_parts_1 rfl ?_
  refine lv_lconst (v := 1) hx hb dX5_parts_2 (by decide) ?_
  refine lv_ldc2 (v := 6) hx hb hown (hts _ wd_cl_X5_27) dX5_parts_3 ?_
  obtain ⟨x1, hr2, hf⟩ := bd_some hf
  refine mw_callSi (rest := []) X hG (c_X5_in l dC dI cy a X.2.2.1  M (v1.toInt64) (1 : Int64) (6 : Int64) hr2) (mw_cwS X 3 g_X5_23 hd_X5_in ⟨rfl, rfl⟩ ⟨Nat.le_of_ble_eq_true rfl, Nat.le_of_ble_eq_true rfl⟩) rfl hl.1 rfl (Nat.le_of_ble_eq_true rfl) dX5_parts_6 (fun H locs hG => ?_)
  refine lv_if_ne (tgt := 15) hx hb dX5_parts_9 (by decide) (fun c3 => ?_) (fun c3 => ?_)
  · have hf := iten c3 hf
    refine lv_aload_n hx hb dX5_parts_15 rfl (lv_at hl 0 rfl) ?_
    refine gf_X5_7 X hG hT dX5_parts_16 ?_
    refine lv_iconst (v := 3) hx hb dX5_parts_19 (by decide) ?_
    obtain ⟨hi4, hf⟩ := ck_some hf
    refine mw_iald X hG hT.2.1 hi4 dX5_parts_20 ?_
    refine lv_topi (fun x5 ex5 => ?_)
    have hf := nm_of ex5 hf
    refine lv_istore_n (lv' := [(2, .int x5), (0, .ref (a this)), (1, .int v1)]) hx hb dX5_parts_21 rfl hl (by decide) rfl (fun ls hl => ?_)
    refine lv_aload_n hx hb dX5_parts_22 rfl (lv_at hl 1 rfl) ?_
    refine gf_X5_7 X hG hT dX5_parts_23 ?_
    refine lv_iconst (v := 2) hx hb dX5_parts_26 (by decide) ?_
    obtain ⟨hi6, hf⟩ := ck_some hf
    refine mw_iald X hG hT.2.1 hi6 dX5_parts_27 ?_
    refine lv_topi (fun x7 ex7 => ?_)
    have hf := nm_of ex7 hf
    refine lv_istore_n (lv' := [(3, .int x7), (2, .int x5), (0, .ref (a this)), (1, .int v1)]) hx hb dX5_parts_28 rfl hl (by decide) rfl (fun ls hl => ?_)
    refine lv_iconst (v := 0) hx hb dX5_parts_29 (by decide) ?_
    refine lv_istore (lv' := [(4, .int (0 : Int32)), (3, .int x7), (2, .int x5), (0, .ref (a this)), (1, .int v1)]) hx hb dX5_parts_30 hl (by decide) rfl (fun ls hl => ?_)
    exact w_X5_parts_L32 X hT 1000 _ _ _ _ _ hf hG (lv_sub hl [3, 4, 2, 1, 0] rfl)
  · have hf := itep c3 hf
    refine lv_ldc (v := -1000000002) hx hb hown (hts _ wd_ct_X5_29) dX5_parts_12 ?_
    obtain rfl := Option.some.inj hf
    exact mw_iret X hG dX5_parts_14
/-! X5_wayOf -/
set_option maxHeartbeats 4000000 in
set_option maxRecDepth 100000 in
theorem w_X5_wayOf_L46 {l : Launch} {dC : Nat → ClassId} {dI : Nat → Nat → Nat} {cy : Nat → ClassId} {a : Nat → Nat} {p : Program} {e : Env} {s : State} {m : MethodId} {args : Array Value} {below : List Frame} {meth : Method} {c : Code} (X : XU dC dI cy a p s m c args meth cX5_wayOf 4 RX5 (some .int)) {M : Mem} {this : Nat} (hT : K5 this) {v1 : Int32} {v2 : Int32} {v3 : Int32} {o : Int32} {k2 : Int32 → Option Int32} (hk2 : ∀ (v3 : Int32) (H : Heap) (locs : List Loc) (ls : Array Slot), k2 v3 = some o → GU dC dI cy a s.heap M H locs → lv_has ls 4 [(0, .ref (a this)), (1, .int v1), (2, .int v2), (3, .int v3)] → W p l e ({ frames := 1, cells := 0, slots := 0, locals := 21 } : Room) s m args below meth c H locs 0 0 (MQ below (QUi dC dI cy a o M) args s 0 0 (AU a)) (F0 m 2 ls [])) {H : Heap} {locs : List Loc} {ls : Array Slot} (hf : f_X5_wayOf_L46 k2 M this v1 v2 v3 = some o) (hG : GU dC dI cy a s.heap M H locs) (hl : lv_has ls 4 [(0, .ref (a this)), (1, .int v1), (2, .int v2), (3, .int v3)]) : W p l e ({ frames := 1, cells := 0, slots := 0, locals := 21 } : Room) s m args below meth c H locs 0 0 (MQ below (QUi dC dI cy a o M) args s 0 0 (AU a)) (F0 m 46 ls []) := by
  have hx := X.1.1
  have hb := X.1.2.1
  have hown := X.1.2.2.2.1
  have hts := X.1.2.2.2.2
  rw [f_X5_wayOf_L46] at hf
  obtain ⟨x1, ex1⟩ : ∃ y : Int32, y = v3 + (1 : Int32) := ⟨_, rfl⟩
  have hf := nm_of ex1 hf
  refine lv_iinc (v := x1) (lv' := [(3, .int x1), (0, .ref (a this)), (1, .int v1), (2, .int v2)]) hx hb dX5_wayOf_46 hl (k := 3) rfl (by rw [ex1]; rfl) (by decide) rfl (fun ls hl => ?_)
  refine lv_goto (tgt := 2) hx hb dX5_wayOf_49 (by decide) ?_
  exact hk2 _ _ _ _ hf hG (lv_sub hl [1, 2, 3, 0] rfl)
set_option maxHeartbeats 4000000 in
set_option maxRecDepth 100000 in
theorem w_X5_wayOf_L2 {l : Launch} {dC : Nat → ClassId} {dI : Nat → Nat → Nat} {cy : Nat → ClassId} {a : Nat → Nat} {p : Program} {e : Env} {s : State} {m : MethodId} {args : Array Value} {below : List Frame} {meth : Method} {c : Code} (X : XU dC dI cy a p s m c args meth cX5_wayOf 4 RX5 (some .int)) {M : Mem} {this : Nat} (hT : K5 this) {v1 : Int32} {v2 : Int32} {o : Int32} : ∀ (n : Nat) (v3 : Int32) (H : Heap) (locs : List Loc) (ls : Array Slot), f_X5_wayOf_L2 M this v1 v2 n v3 = some o → GU dC dI cy a s.heap M H locs → lv_has ls 4 [(0, .ref (a this)), (1, .int v1), (2, .int v2), (3, .int v3)] → W p l e ({ frames := 1, cells := 0, slots := 0, locals := 21 } : Room) s m args below meth c H locs 0 0 (MQ below (QUi dC dI cy a o M) args s 0 0 (AU a)) (F0 m 2 ls []) := by
  have hx := X.1.1
  have hb := X.1.2.1
  have hown := X.1.2.2.2.1
  have hts := X.1.2.2.2.2
  intro n
  induction n with
  | zero => intro v3 H locs ls hf; cases hf
  | succ n ih =>
    intro v3 H locs ls hf hG hl
    rw [f_X5_wayOf_L2] at hf
    refine lv_iload_n hx hb dX5_wayOf_2 rfl (lv_at hl 3 rfl) ?_
    refine lv_aload_n hx hb dX5_wayOf_3 rfl (lv_at hl 0 rfl) ?_
    refine gf_X5_7 X hG hT dX5_wayOf_4 ?_
    refine lv_iconst (v := 1) hx hb dX5_wayOf_7 (by decide) ?_
    obtain ⟨hi1, hf⟩ := ck_some hf
    refine mw_iald X hG hT.2.1 hi1 dX5_wayOf_8 ?_
    refine lv_icmp_ge (tgt := 52) hx hb dX5_wayOf_9 (by decide) (fun c2 => ?_) (fun c2 => ?_)
    · have hf := itep c2 hf
      refine lv_iconst (v := -1) hx hb dX5_wayOf_52 (by decide) ?_
      obtain rfl := Option.some.inj hf
      exact mw_iret X hG dX5_wayOf_53
    · have hf := iten c2 hf
      refine lv_aload_n hx hb dX5_wayOf_12 rfl (lv_at hl 0 rfl) ?_
      refine gf_X5_7 X hG hT dX5_wayOf_13 ?_
      refine lv_iconst (v := 0) hx hb dX5_wayOf_16 (by decide) ?_
      refine lv_iload_n hx hb dX5_wayOf_17 rfl (lv_at hl 3 rfl) ?_
      obtain ⟨x3, hr4, hf⟩ := bd_some hf
      refine mw_callSi (rest := [.ref (a (this + 1))]) X hG (c_X5_at l dC dI cy a X.2.2.1  M (0 : Int32) v3 hr4) (mw_cwS X 2 g_X5_34 hd_X5_at ⟨rfl, rfl⟩ ⟨Nat.le_of_ble_eq_true rfl, Nat.le_of_ble_eq_true rfl⟩) rfl hl.1 rfl (Nat.le_of_ble_eq_true rfl) dX5_wayOf_18 (fun H locs hG => ?_)
      refine lv_iconst (v := 0) hx hb dX5_wayOf_21 (by decide) ?_
      refine lv_iadd hx hb dX5_wayOf_22 ?_
      obtain ⟨hi5, hf⟩ := ck_some hf
      refine mw_iald X hG hT.2.1 hi5 dX5_wayOf_23 ?_
      refine lv_iload_n hx hb dX5_wayOf_24 rfl (lv_at hl 1 rfl) ?_
      refine lv_icmp_ne (tgt := 46) hx hb dX5_wayOf_25 (by decide) (fun c6 => ?_) (fun c6 => ?_)
      · have hf := iten c6 hf
        exact w_X5_wayOf_L46 X hT ih hf hG (lv_sub hl [0, 1, 2, 3] rfl)
      · have hf := itep c6 hf
        refine lv_aload_n hx hb dX5_wayOf_28 rfl (lv_at hl 0 rfl) ?_
        refine gf_X5_7 X hG hT dX5_wayOf_29 ?_
        refine lv_iconst (v := 0) hx hb dX5_wayOf_32 (by decide) ?_
        refine lv_iload_n hx hb dX5_wayOf_33 rfl (lv_at hl 3 rfl) ?_
        obtain ⟨x7, hr8, hf⟩ := bd_some hf
        refine mw_callSi (rest := [.ref (a (this + 1))]) X hG (c_X5_at l dC dI cy a X.2.2.1  M (0 : Int32) v3 hr8) (mw_cwS X 2 g_X5_34 hd_X5_at ⟨rfl, rfl⟩ ⟨Nat.le_of_ble_eq_true rfl, Nat.le_of_ble_eq_true rfl⟩) rfl hl.1 rfl (Nat.le_of_ble_eq_true rfl) dX5_wayOf_34 (fun H locs hG => ?_)
        refine lv_iconst (v := 1) hx hb dX5_wayOf_37 (by decide) ?_
        refine lv_iadd hx hb dX5_wayOf_38 ?_
        obtain ⟨hi9, hf⟩ := ck_some hf
        refine mw_iald X hG hT.2.1 hi9 dX5_wayOf_39 ?_
        refine lv_iload_n hx hb dX5_wayOf_40 rfl (lv_at hl 2 rfl) ?_
        refine lv_icmp_ne (tgt := 46) hx hb dX5_wayOf_41 (by decide) (fun c10 => ?_) (fun c10 => ?_)
        · have hf := iten c10 hf
          exact w_X5_wayOf_L46 X hT ih hf hG (lv_sub hl [0, 1, 2, 3] rfl)
        · have hf := itep c10 hf
          refine lv_iload_n hx hb dX5_wayOf_44 rfl (lv_at hl 3 rfl) ?_
          obtain rfl := Option.some.inj hf
          exact mw_iret X hG dX5_wayOf_45
set_option maxHeartbeats 4000000 in
set_option maxRecDepth 100000 in
theorem c_X5_wayOf (l : Launch) (dC : Nat → ClassId) (dI : Nat → Nat → Nat) (cy : Nat → ClassId) (a : Nat → Nat) (ha : injU a) (this : Nat) (hT : K5 this) (M : Mem) (v1 : Int32) (v2 : Int32) {o : Int32} (hf : f_X5_wayOf M this v1 v2 = some o) : Met l yX5_wayOf (wsU yX5_wayOf cX5_wayOf 4 (some .int)) ({ frames := 1, cells := 0, slots := 0, locals := 21 } : Room) (PU dC dI cy a [.ref (a this), .int v1, .int v2] M) (QUi dC dI cy a o M) 0 0 (AU a) := by
  refine mw_met (by decide) ha (Nat.le_of_ble_eq_true rfl) ?_
  intro p e s m below meth c ls X hG hl
  have hl : lv_has ls 4 [(0, .ref (a this)), (1, .int v1), (2, .int v2)] := hl
  have X : XU dC dI cy a p s m c [.ref (a this), .int v1, .int v2].toArray meth cX5_wayOf 4 RX5 (some .int) := X
  have hx := X.1.1
  have hb := X.1.2.1
  have hown := X.1.2.2.2.1
  have hts := X.1.2.2.2.2
  rw [f_X5_wayOf] at hf
  refine lv_iconst (v := 0) hx hb dX5_wayOf_0 (by decide) ?_
  refine lv_istore_n (lv' := [(3, .int (0 : Int32)), (0, .ref (a this)), (1, .int v1), (2, .int v2)]) hx hb dX5_wayOf_1 rfl hl (by decide) rfl (fun ls hl => ?_)
  exact w_X5_wayOf_L2 X hT 1000 _ _ _ _ hf hG (lv_sub hl [1, 2, 3, 0] rfl)
/-! X5_channel -/
set_option maxHeartbeats 4000000 in
set_option maxRecDepth 100000 in
theorem w_X5_channel_L21 {l : Launch} {dC : Nat → ClassId} {dI : Nat → Nat → Nat} {cy : Nat → ClassId} {a : Nat → Nat} {p : Program} {e : Env} {s : State} {m : MethodId} {args : Array Value} {below : List Frame} {meth : Method} {c : Code} (X : XU dC dI cy a p s m c args meth cX5_channel 6 RX5 (some .int)) {M : Mem} {this : Nat} (hT : K5 this) {o : (Int32 × Mem)} {H : Heap} {locs : List Loc} {ls : Array Slot} (hf : f_X5_channel_L21 M this = some o) (hG : GU dC dI cy a s.heap M H locs) (hl : lv_has ls 6 [(0, .ref (a this))]) : W p l e ({ frames := 2, cells := 0, slots := 0, locals := 46 } : Room) s m args below meth c H locs 0 0 (MQ below (QUi dC dI cy a o.1 o.2) args s 0 0 (AU a)) (F0 m 21 ls []) := by
  have hx := X.1.1
  have hb := X.1.2.1
  have hown := X.1.2.2.2.1
  have hts := X.1.2.2.2.2
  rw [f_X5_channel_L21] at hf
  refine lv_ldc (v := -1000000001) hx hb hown (hts _ wd_ct_X5_42) dX5_channel_21 ?_
  obtain rfl := Option.some.inj hf
  exact mw_iret X hG dX5_channel_23
set_option maxHeartbeats 4000000 in
set_option maxRecDepth 100000 in
theorem w_X5_channel_L55 {l : Launch} {dC : Nat → ClassId} {dI : Nat → Nat → Nat} {cy : Nat → ClassId} {a : Nat → Nat} {p : Program} {e : Env} {s : State} {m : MethodId} {args : Array Value} {below : List Frame} {meth : Method} {c : Code} (X : XU dC dI cy a p s m c args meth cX5_channel 6 RX5 (some .int)) {M : Mem} {this : Nat} (hT : K5 this) {o : (Int32 × Mem)} {H : Heap} {locs : List Loc} {ls : Array Slot} (hf : f_X5_channel_L55 M this = some o) (hG : GU dC dI cy a s.heap M H locs) (hl : lv_has ls 6 [(0, .ref (a this))]) : W p l e ({ frames := 2, cells := 0, slots := 0, locals := 46 } : Room) s m args below meth c H locs 0 0 (MQ below (QUi dC dI cy a o.1 o.2) args s 0 0 (AU a)) (F0 m 55 ls []) := by
  have hx := X.1.1
  have hb := X.1.2.1
  have hown := X.1.2.2.2.1
  have hts := X.1.2.2.2.2
  rw [f_X5_channel_L55] at hf
  refine lv_ldc (v := -1000000002) hx hb hown (hts _ wd_ct_X5_29) dX5_channel_55 ?_
  obtain rfl := Option.some.inj hf
  exact mw_iret X hG dX5_channel_57
set_option maxHeartbeats 4000000 in
set_option maxRecDepth 100000 in
theorem w_X5_channel_L85 {l : Launch} {dC : Nat → ClassId} {dI : Nat → Nat → Nat} {cy : Nat → ClassId} {a : Nat → Nat} {p : Program} {e : Env} {s : State} {m : MethodId} {args : Array Value} {below : List Frame} {meth : Method} {c : Code} (X : XU dC dI cy a p s m c args meth cX5_channel 6 RX5 (some .int)) {M : Mem} {this : Nat} (hT : K5 this) {o : (Int32 × Mem)} {H : Heap} {locs : List Loc} {ls : Array Slot} (hf : f_X5_channel_L85 M this = some o) (hG : GU dC dI cy a s.heap M H locs) (hl : lv_has ls 6 [(0, .ref (a this))]) : W p l e ({ frames := 2, cells := 0, slots := 0, locals := 46 } : Room) s m args below meth c H locs 0 0 (MQ below (QUi dC dI cy a o.1 o.2) args s 0 0 (AU a)) (F0 m 85 ls []) := by
  have hx := X.1.1
  have hb := X.1.2.1
  have hown := X.1.2.2.2.1
  have hts := X.1.2.2.2.2
  rw [f_X5_channel_L85] at hf
  refine lv_ldc (v := -1000000003) hx hb hown (hts _ wd_ct_X5_48) dX5_channel_85 ?_
  obtain rfl := Option.some.inj hf
  exact mw_iret X hG dX5_channel_87
set_option maxHeartbeats 4000000 in
set_option maxRecDepth 100000 in
theorem c_X5_channel (l : Launch) (dC : Nat → ClassId) (dI : Nat → Nat → Nat) (cy : Nat → ClassId) (a : Nat → Nat) (ha : injU a) (this : Nat) (hT : K5 this) (M : Mem) (v1 : Int32) (v2 : Int32) (v3 : Int32) (v4 : Int32) {o : (Int32 × Mem)} (hf : f_X5_channel M this v1 v2 v3 v4 = some o) : Met l yX5_channel (wsU yX5_channel cX5_channel 6 (some .int)) ({ frames := 2, cells := 0, slots := 0, locals := 46 } : Room) (PU dC dI cy a [.ref (a this), .int v1, .int v2, .int v3, .int v4] M) (QUi dC dI cy a o.1 o.2) 0 0 (AU a) := by
  refine mw_met (by decide) ha (Nat.le_of_ble_eq_true rfl) ?_
  intro p e s m below meth c ls X hG hl
  have hl : lv_has ls 6 [(0, .ref (a this)), (1, .int v1), (2, .int v2), (3, .int v3), (4, .int v4)] := hl
  have X : XU dC dI cy a p s m c [.ref (a this), .int v1, .int v2, .int v3, .int v4].toArray meth cX5_channel 6 RX5 (some .int) := X
  have hx := X.1.1
  have hb := X.1.2.1
  have hown := X.1.2.2.2.1
  have hts := X.1.2.2.2.2
  rw [f_X5_channel] at hf
  refine lv_aload_n hx hb dX5_channel_0 rfl (lv_at hl 0 rfl) ?_
  refine lv_iload_n hx hb dX5_channel_1 rfl (lv_at hl 1 rfl) ?_
  obtain ⟨x1, hr2, hf⟩ := bd_some hf
  refine mw_callVi (rest := []) X hG hT.1 rfl (c_X5_isPart l dC dI cy a X.2.2.1 this hT M v1 hr2) (mw_cwV X 1 g_X5_38 hd_X5_isPart ⟨rfl, rfl⟩ ⟨Nat.le_of_ble_eq_true rfl, Nat.le_of_ble_eq_true rfl⟩) rfl hl.1 rfl (Nat.le_of_ble_eq_true rfl) dX5_channel_2 (fun H locs hG => ?_)
  refine lv_if_eq (tgt := 21) hx hb dX5_channel_5 (by decide) (fun c3 => ?_) (fun c3 => ?_)
  · have hf := itep c3 hf
    exact w_X5_channel_L21 X hT hf hG (lv_sub hl [0] rfl)
  · have hf := iten c3 hf
    refine lv_aload_n hx hb dX5_channel_8 rfl (lv_at hl 0 rfl) ?_
    refine lv_iload_n hx hb dX5_channel_9 rfl (lv_at hl 2 rfl) ?_
    obtain ⟨x4, hr5, hf⟩ := bd_some hf
    refine mw_callVi (rest := []) X hG hT.1 rfl (c_X5_isPart l dC dI cy a X.2.2.1 this hT M v2 hr5) (mw_cwV X 1 g_X5_38 hd_X5_isPart ⟨rfl, rfl⟩ ⟨Nat.le_of_ble_eq_true rfl, Nat.le_of_ble_eq_true rfl⟩) rfl hl.1 rfl (Nat.le_of_ble_eq_true rfl) dX5_channel_10 (fun H locs hG => ?_)
    refine lv_if_eq (tgt := 21) hx hb dX5_channel_13 (by decide) (fun c6 => ?_) (fun c6 => ?_)
    · have hf := itep c6 hf
      exact w_X5_channel_L21 X hT hf hG (lv_sub hl [0] rfl)
    · have hf := iten c6 hf
      refine lv_iload_n hx hb dX5_channel_16 rfl (lv_at hl 1 rfl) ?_
      refine lv_iload_n hx hb dX5_channel_17 rfl (lv_at hl 2 rfl) ?_
      refine lv_icmp_ne (tgt := 24) hx hb dX5_channel_18 (by decide) (fun c7 => ?_) (fun c7 => ?_)
      · have hf := iten c7 hf
        refine lv_iload_n hx hb dX5_channel_24 rfl (lv_at hl 3 rfl) ?_
        refine lv_i2l (v := v3.toInt64) hx hb dX5_channel_25 rfl ?_
        refine lv_lconst (v := 0) hx hb dX5_channel_26 (by decide) ?_
        refine lv_ldc2 (v := 99) hx hb hown (hts _ wd_cl_X5_43) dX5_channel_27 ?_
        obtain ⟨x8, hr9, hf⟩ := bd_some hf
        refine mw_callSi (rest := []) X hG (c_X5_in l dC dI cy a X.2.2.1  M (v3.toInt64) (0 : Int64) (99 : Int64) hr9) (mw_cwS X 3 g_X5_23 hd_X5_in ⟨rfl, rfl⟩ ⟨Nat.le_of_ble_eq_true rfl, Nat.le_of_ble_eq_true rfl⟩) rfl hl.1 rfl (Nat.le_of_ble_eq_true rfl) dX5_channel_30 (fun H locs hG => ?_)
        refine lv_if_eq (tgt := 55) hx hb dX5_channel_33 (by decide) (fun c10 => ?_) (fun c10 => ?_)
        · have hf := itep c10 hf
          exact w_X5_channel_L55 X hT hf hG (lv_sub hl [0] rfl)
        · have hf := iten c10 hf
          refine lv_iload hx hb dX5_channel_36 (lv_at hl 4 rfl) ?_
          refine lv_i2l (v := v4.toInt64) hx hb dX5_channel_38 rfl ?_
          refine lv_lconst (v := 1) hx hb dX5_channel_39 (by decide) ?_
          refine lv_ldc2 (v := 99) hx hb hown (hts _ wd_cl_X5_43) dX5_channel_40 ?_
          obtain ⟨x11, hr12, hf⟩ := bd_some hf
          refine mw_callSi (rest := []) X hG (c_X5_in l dC dI cy a X.2.2.1  M (v4.toInt64) (1 : Int64) (99 : Int64) hr12) (mw_cwS X 3 g_X5_23 hd_X5_in ⟨rfl, rfl⟩ ⟨Nat.le_of_ble_eq_true rfl, Nat.le_of_ble_eq_true rfl⟩) rfl hl.1 rfl (Nat.le_of_ble_eq_true rfl) dX5_channel_43 (fun H locs hG => ?_)
          refine lv_if_eq (tgt := 55) hx hb dX5_channel_46 (by decide) (fun c13 => ?_) (fun c13 => ?_)
          · have hf := itep c13 hf
            exact w_X5_channel_L55 X hT hf hG (lv_sub hl [0] rfl)
          · have hf := iten c13 hf
            refine lv_iload hx hb dX5_channel_49 (lv_at hl 4 rfl) ?_
            refine lv_iload_n hx hb dX5_channel_51 rfl (lv_at hl 3 rfl) ?_
            refine lv_icmp_ge (tgt := 58) hx hb dX5_channel_52 (by decide) (fun c14 => ?_) (fun c14 => ?_)
            · have hf := itep c14 hf
              refine lv_aload_n hx hb dX5_channel_58 rfl (lv_at hl 0 rfl) ?_
              refine lv_iload_n hx hb dX5_channel_59 rfl (lv_at hl 1 rfl) ?_
              refine lv_iload_n hx hb dX5_channel_60 rfl (lv_at hl 2 rfl) ?_
              obtain ⟨x15, hr16, hf⟩ := bd_some hf
              refine mw_callVi (rest := []) X hG hT.1 rfl (c_X5_wayOf l dC dI cy a X.2.2.1 this hT M v1 v2 hr16) (mw_cwV X 2 g_X5_45 hd_X5_wayOf ⟨rfl, rfl⟩ ⟨Nat.le_of_ble_eq_true rfl, Nat.le_of_ble_eq_true rfl⟩) rfl hl.1 rfl (Nat.le_of_ble_eq_true rfl) dX5_channel_61 (fun H locs hG => ?_)
              refine lv_iconst (v := -1) hx hb dX5_channel_64 (by decide) ?_
              refine lv_icmp_ne (tgt := 85) hx hb dX5_channel_65 (by decide) (fun c17 => ?_) (fun c17 => ?_)
              · have hf := iten c17 hf
                exact w_X5_channel_L85 X hT hf hG (lv_sub hl [0] rfl)
              · have hf := itep c17 hf
                refine lv_aload_n hx hb dX5_channel_68 rfl (lv_at hl 0 rfl) ?_
                refine gf_X5_7 X hG hT dX5_channel_69 ?_
                refine lv_iconst (v := 5) hx hb dX5_channel_72 (by decide) ?_
                obtain ⟨hi18, hf⟩ := ck_some hf
                refine mw_iald X hG hT.2.1 hi18 dX5_channel_73 ?_
                refine lv_aload_n hx hb dX5_channel_74 rfl (lv_at hl 0 rfl) ?_
                refine gf_X5_7 X hG hT dX5_channel_75 ?_
                refine lv_bipush (v := 6) hx hb dX5_channel_78 (by decide) ?_
                obtain ⟨hi19, hf⟩ := ck_some hf
                refine mw_iald X hG hT.2.1 hi19 dX5_channel_80 ?_
                refine lv_iadd hx hb dX5_channel_81 ?_
                refine lv_if_le (tgt := 88) hx hb dX5_channel_82 (by decide) (fun c20 => ?_) (fun c20 => ?_)
                · have hf := itep c20 hf
                  refine lv_aload_n hx hb dX5_channel_88 rfl (lv_at hl 0 rfl) ?_
                  refine gf_X5_7 X hG hT dX5_channel_89 ?_
                  refine lv_iconst (v := 1) hx hb dX5_channel_92 (by decide) ?_
                  obtain ⟨hi21, hf⟩ := ck_some hf
                  refine mw_iald X hG hT.2.1 hi21 dX5_channel_93 ?_
                  refine lv_bipush (v := 12) hx hb dX5_channel_94 (by decide) ?_
                  refine lv_icmp_ne (tgt := 102) hx hb dX5_channel_96 (by decide) (fun c22 => ?_) (fun c22 => ?_)
                  · have hf := iten c22 hf
                    refine lv_iconst (v := 0) hx hb dX5_channel_102 (by decide) ?_
                    refine lv_aload_n hx hb dX5_channel_103 rfl (lv_at hl 0 rfl) ?_
                    refine gf_X5_7 X hG hT dX5_channel_104 ?_
                    refine lv_iconst (v := 1) hx hb dX5_channel_107 (by decide) ?_
                    obtain ⟨hi23, hf⟩ := ck_some hf
                    refine mw_iald X hG hT.2.1 hi23 dX5_channel_108 ?_
                    obtain ⟨x24, hr25, hf⟩ := bd_some hf
                    refine mw_callSi (rest := []) X hG (c_X5_at l dC dI cy a X.2.2.1  M (0 : Int32) (rd M (this + 1) (1 : Int32).toNatClampNeg) hr25) (mw_cwS X 2 g_X5_34 hd_X5_at ⟨rfl, rfl⟩ ⟨Nat.le_of_ble_eq_true rfl, Nat.le_of_ble_eq_true rfl⟩) rfl hl.1 rfl (Nat.le_of_ble_eq_true rfl) dX5_channel_109 (fun H locs hG => ?_)
                    refine lv_istore (lv' := [(5, .int x24), (0, .ref (a this)), (1, .int v1), (2, .int v2), (3, .int v3), (4, .int v4)]) hx hb dX5_channel_112 hl (by decide) rfl (fun ls hl => ?_)
                    refine lv_aload_n hx hb dX5_channel_114 rfl (lv_at hl 1 rfl) ?_
                    refine gf_X5_7 X hG hT dX5_channel_115 ?_
                    refine lv_iload hx hb dX5_channel_118 (lv_at hl 0 rfl) ?_
                    refine lv_iconst (v := 0) hx hb dX5_channel_120 (by decide) ?_
                    refine lv_iadd hx hb dX5_channel_121 ?_
                    refine lv_iload_n hx hb dX5_channel_122 rfl (lv_at hl 2 rfl) ?_
                    obtain ⟨hi26, hf⟩ := ck_some hf
                    refine mw_iast X hG hT.2.1 hi26 dX5_channel_123 (fun M27 H locs eM27 hG => ?_)
                    have hf := nm_of eM27 hf
                    refine lv_aload_n hx hb dX5_channel_124 rfl (lv_at hl 1 rfl) ?_
                    refine gf_X5_7 X hG hT dX5_channel_125 ?_
                    refine lv_iload hx hb dX5_channel_128 (lv_at hl 0 rfl) ?_
                    refine lv_iconst (v := 1) hx hb dX5_channel_130 (by decide) ?_
                    refine lv_iadd hx hb dX5_channel_131 ?_
                    refine lv_iload_n hx hb dX5_channel_132 rfl (lv_at hl 3 rfl) ?_
                    obtain ⟨hi28, hf⟩ := ck_some hf
                    refine mw_iast X hG hT.2.1 hi28 dX5_channel_133 (fun M29 H locs eM29 hG => ?_)
                    have hf := nm_of eM29 hf
                    refine lv_aload_n hx hb dX5_channel_134 rfl (lv_at hl 1 rfl) ?_
                    refine gf_X5_7 X hG hT dX5_channel_135 ?_
                    refine lv_iload hx hb dX5_channel_138 (lv_at hl 0 rfl) ?_
                    refine lv_iconst (v := 2) hx hb dX5_channel_140 (by decide) ?_
                    refine lv_iadd hx hb dX5_channel_141 ?_
                    refine lv_iload_n hx hb dX5_channel_142 rfl (lv_at hl 4 rfl) ?_
                    obtain ⟨hi30, hf⟩ := ck_some hf
                    refine mw_iast X hG hT.2.1 hi30 dX5_channel_143 (fun M31 H locs eM31 hG => ?_)
                    have hf := nm_of eM31 hf
                    refine lv_aload_n hx hb dX5_channel_144 rfl (lv_at hl 1 rfl) ?_
                    refine gf_X5_7 X hG hT dX5_channel_145 ?_
                    refine lv_iload hx hb dX5_channel_148 (lv_at hl 0 rfl) ?_
                    refine lv_iconst (v := 3) hx hb dX5_channel_150 (by decide) ?_
                    refine lv_iadd hx hb dX5_channel_151 ?_
                    refine lv_iload hx hb dX5_channel_152 (lv_at hl 5 rfl) ?_
                    obtain ⟨hi32, hf⟩ := ck_some hf
                    refine mw_iast X hG hT.2.1 hi32 dX5_channel_154 (fun M33 H locs eM33 hG => ?_)
                    have hf := nm_of eM33 hf
                    refine lv_aload_n hx hb dX5_channel_155 rfl (lv_at hl 1 rfl) ?_
                    refine gf_X5_7 X hG hT dX5_channel_156 ?_
                    refine lv_iload hx hb dX5_channel_159 (lv_at hl 0 rfl) ?_
                    refine lv_iconst (v := 4) hx hb dX5_channel_161 (by decide) ?_
                    refine lv_iadd hx hb dX5_channel_162 ?_
                    refine lv_iconst (v := 0) hx hb dX5_channel_163 (by decide) ?_
                    obtain ⟨hi34, hf⟩ := ck_some hf
                    refine mw_iast X hG hT.2.1 hi34 dX5_channel_164 (fun M35 H locs eM35 hG => ?_)
                    have hf := nm_of eM35 hf
                    refine lv_aload_n hx hb dX5_channel_165 rfl (lv_at hl 1 rfl) ?_
                    refine gf_X5_7 X hG hT dX5_channel_166 ?_
                    refine lv_iload hx hb dX5_channel_169 (lv_at hl 0 rfl) ?_
                    refine lv_iconst (v := 5) hx hb dX5_channel_171 (by decide) ?_
                    refine lv_iadd hx hb dX5_channel_172 ?_
                    refine lv_iconst (v := 0) hx hb dX5_channel_173 (by decide) ?_
                    obtain ⟨hi36, hf⟩ := ck_some hf
                    refine mw_iast X hG hT.2.1 hi36 dX5_channel_174 (fun M37 H locs eM37 hG => ?_)
                    have hf := nm_of eM37 hf
                    refine lv_aload_n hx hb dX5_channel_175 rfl (lv_at hl 1 rfl) ?_
                    refine gf_X5_7 X hG hT dX5_channel_176 ?_
                    refine lv_iload hx hb dX5_channel_179 (lv_at hl 0 rfl) ?_
                    refine lv_bipush (v := 6) hx hb dX5_channel_181 (by decide) ?_
                    refine lv_iadd hx hb dX5_channel_183 ?_
                    refine lv_iconst (v := 0) hx hb dX5_channel_184 (by decide) ?_
                    obtain ⟨hi38, hf⟩ := ck_some hf
                    refine mw_iast X hG hT.2.1 hi38 dX5_channel_185 (fun M39 H locs eM39 hG => ?_)
                    have hf := nm_of eM39 hf
                    refine lv_aload_n hx hb dX5_channel_186 rfl (lv_at hl 1 rfl) ?_
                    refine gf_X5_7 X hG hT dX5_channel_187 ?_
                    refine lv_iconst (v := 1) hx hb dX5_channel_190 (by decide) ?_
                    refine lv_dup2_11 hx hb dX5_channel_191 rfl rfl ?_
                    obtain ⟨hi40, hf⟩ := ck_some hf
                    refine mw_iald X hG hT.2.1 hi40 dX5_channel_192 ?_
                    refine lv_iconst (v := 1) hx hb dX5_channel_193 (by decide) ?_
                    refine lv_iadd hx hb dX5_channel_194 ?_
                    obtain ⟨hi41, hf⟩ := ck_some hf
                    refine mw_iast X hG hT.2.1 hi41 dX5_channel_195 (fun M42 H locs eM42 hG => ?_)
                    have hf := nm_of eM42 hf
                    refine lv_aload_n hx hb dX5_channel_196 rfl (lv_at hl 1 rfl) ?_
                    refine gf_X5_7 X hG hT dX5_channel_197 ?_
                    refine lv_iconst (v := 1) hx hb dX5_channel_200 (by decide) ?_
                    obtain ⟨hi43, hf⟩ := ck_some hf
                    refine mw_iald X hG hT.2.1 hi43 dX5_channel_201 ?_
                    refine lv_iconst (v := 1) hx hb dX5_channel_202 (by decide) ?_
                    refine lv_isub hx hb dX5_channel_203 ?_
                    obtain rfl := Option.some.inj hf
                    exact mw_iret X hG dX5_channel_204
                  · have hf := itep c22 hf
                    refine lv_ldc (v := -1000000004) hx hb hown (hts _ wd_ct_X5_49) dX5_channel_99 ?_
                    obtain rfl := Option.some.inj hf
                    exact mw_iret X hG dX5_channel_101
                · have hf := iten c20 hf
                  exact w_X5_channel_L85 X hT hf hG (lv_sub hl [0] rfl)
            · have hf := iten c14 hf
              exact w_X5_channel_L55 X hT hf hG (lv_sub hl [0] rfl)
      · have hf := itep c7 hf
        exact w_X5_channel_L21 X hT hf hG (lv_sub hl [0] rfl)
/-! X5_comes -/
set_option maxHeartbeats 4000000 in
set_option maxRecDepth 100000 in
theorem c_X5_comes (l : Launch) (dC : Nat → ClassId) (dI : Nat → Nat → Nat) (cy : Nat → ClassId) (a : Nat → Nat) (ha : injU a) (this : Nat) (hT : K5 this) (M : Mem) (v1 : Int32) (v2 : Int32) (v3 : Int32) (v4 : Int32) (v5 : Int32) {o : Mem} (hf : f_X5_comes M this v1 v2 v3 v4 v5 = some o) : Met l yX5_comes (wsU yX5_comes cX5_comes 7 none) ({ frames := 0, cells := 0, slots := 0, locals := 0 } : Room) (PU dC dI cy a [.ref (a this), .int v1, .int v2, .int v3, .int v4, .int v5] M) (QUv dC dI cy a o) 0 0 (AU a) := by
  refine mw_met (by decide) ha (Nat.le_of_ble_eq_true rfl) ?_
  intro p e s m below meth c ls X hG hl
  have hl : lv_has ls 7 [(0, .ref (a this)), (1, .int v1), (2, .int v2), (3, .int v3), (4, .int v4), (5, .int v5)] := hl
  have X : XU dC dI cy a p s m c [.ref (a this), .int v1, .int v2, .int v3, .int v4, .int v5].toArray meth cX5_comes 7 RX5 none := X
  have hx := X.1.1
  have hb := X.1.2.1
  have hown := X.1.2.2.2.1
  have hts := X.1.2.2.2.2
  rw [f_X5_comes] at hf
  refine lv_iload_n hx hb dX5_comes_0 rfl (lv_at hl 1 rfl) ?_
  refine lv_bipush (v := 112) hx hb dX5_comes_1 (by decide) ?_
  refine lv_iadd hx hb dX5_comes_3 ?_
  refine lv_iconst (v := 5) hx hb dX5_comes_4 (by decide) ?_
  refine lv_aload_n hx hb dX5_comes_5 rfl (lv_at hl 0 rfl) ?_
  refine gf_X5_7 X hG hT dX5_comes_6 ?_
  refine lv_iload_n hx hb dX5_comes_9 rfl (lv_at hl 1 rfl) ?_
  refine lv_bipush (v := 9) hx hb dX5_comes_10 (by decide) ?_
  refine lv_iadd hx hb dX5_comes_12 ?_
  obtain ⟨hi1, hf⟩ := ck_some hf
  refine mw_iald X hG hT.2.1 hi1 dX5_comes_13 ?_
  refine lv_imul hx hb dX5_comes_14 ?_
  refine lv_iadd hx hb dX5_comes_15 ?_
  refine lv_topi (fun x2 ex2 => ?_)
  have hf := nm_of ex2 hf
  refine lv_istore (lv' := [(6, .int x2), (0, .ref (a this)), (1, .int v1), (2, .int v2), (3, .int v3), (4, .int v4), (5, .int v5)]) hx hb dX5_comes_16 hl (by decide) rfl (fun ls hl => ?_)
  refine lv_aload_n hx hb dX5_comes_18 rfl (lv_at hl 1 rfl) ?_
  refine gf_X5_7 X hG hT dX5_comes_19 ?_
  refine lv_iload hx hb dX5_comes_22 (lv_at hl 0 rfl) ?_
  refine lv_iconst (v := 0) hx hb dX5_comes_24 (by decide) ?_
  refine lv_iadd hx hb dX5_comes_25 ?_
  refine lv_iload_n hx hb dX5_comes_26 rfl (lv_at hl 3 rfl) ?_
  obtain ⟨hi3, hf⟩ := ck_some hf
  refine mw_iast X hG hT.2.1 hi3 dX5_comes_27 (fun M4 H locs eM4 hG => ?_)
  have hf := nm_of eM4 hf
  refine lv_aload_n hx hb dX5_comes_28 rfl (lv_at hl 1 rfl) ?_
  refine gf_X5_7 X hG hT dX5_comes_29 ?_
  refine lv_iload hx hb dX5_comes_32 (lv_at hl 0 rfl) ?_
  refine lv_iconst (v := 1) hx hb dX5_comes_34 (by decide) ?_
  refine lv_iadd hx hb dX5_comes_35 ?_
  refine lv_iload_n hx hb dX5_comes_36 rfl (lv_at hl 4 rfl) ?_
  obtain ⟨hi5, hf⟩ := ck_some hf
  refine mw_iast X hG hT.2.1 hi5 dX5_comes_37 (fun M6 H locs eM6 hG => ?_)
  have hf := nm_of eM6 hf
  refine lv_aload_n hx hb dX5_comes_38 rfl (lv_at hl 1 rfl) ?_
  refine gf_X5_7 X hG hT dX5_comes_39 ?_
  refine lv_iload hx hb dX5_comes_42 (lv_at hl 0 rfl) ?_
  refine lv_iconst (v := 2) hx hb dX5_comes_44 (by decide) ?_
  refine lv_iadd hx hb dX5_comes_45 ?_
  refine lv_iload hx hb dX5_comes_46 (lv_at hl 5 rfl) ?_
  obtain ⟨hi7, hf⟩ := ck_some hf
  refine mw_iast X hG hT.2.1 hi7 dX5_comes_48 (fun M8 H locs eM8 hG => ?_)
  have hf := nm_of eM8 hf
  refine lv_aload_n hx hb dX5_comes_49 rfl (lv_at hl 1 rfl) ?_
  refine gf_X5_7 X hG hT dX5_comes_50 ?_
  refine lv_iload hx hb dX5_comes_53 (lv_at hl 0 rfl) ?_
  refine lv_iconst (v := 3) hx hb dX5_comes_55 (by decide) ?_
  refine lv_iadd hx hb dX5_comes_56 ?_
  refine lv_iload hx hb dX5_comes_57 (lv_at hl 6 rfl) ?_
  obtain ⟨hi9, hf⟩ := ck_some hf
  refine mw_iast X hG hT.2.1 hi9 dX5_comes_59 (fun M10 H locs eM10 hG => ?_)
  have hf := nm_of eM10 hf
  refine lv_aload_n hx hb dX5_comes_60 rfl (lv_at hl 1 rfl) ?_
  refine gf_X5_7 X hG hT dX5_comes_61 ?_
  refine lv_iload hx hb dX5_comes_64 (lv_at hl 0 rfl) ?_
  refine lv_iconst (v := 4) hx hb dX5_comes_66 (by decide) ?_
  refine lv_iadd hx hb dX5_comes_67 ?_
  refine lv_aload_n hx hb dX5_comes_68 rfl (lv_at hl 1 rfl) ?_
  refine gf_X5_7 X hG hT dX5_comes_69 ?_
  refine lv_iload_n hx hb dX5_comes_72 rfl (lv_at hl 2 rfl) ?_
  refine lv_bipush (v := 8) hx hb dX5_comes_73 (by decide) ?_
  refine lv_iadd hx hb dX5_comes_75 ?_
  obtain ⟨hi11, hf⟩ := ck_some hf
  refine mw_iald X hG hT.2.1 hi11 dX5_comes_76 ?_
  obtain ⟨hi12, hf⟩ := ck_some hf
  refine mw_iast X hG hT.2.1 hi12 dX5_comes_77 (fun M13 H locs eM13 hG => ?_)
  have hf := nm_of eM13 hf
  refine lv_aload_n hx hb dX5_comes_78 rfl (lv_at hl 1 rfl) ?_
  refine gf_X5_7 X hG hT dX5_comes_79 ?_
  refine lv_iload_n hx hb dX5_comes_82 rfl (lv_at hl 2 rfl) ?_
  refine lv_bipush (v := 8) hx hb dX5_comes_83 (by decide) ?_
  refine lv_iadd hx hb dX5_comes_85 ?_
  refine lv_topi (fun x14 ex14 => ?_)
  have hf := nm_of ex14 hf
  refine lv_dup2_11 hx hb dX5_comes_86 rfl rfl ?_
  obtain ⟨hi15, hf⟩ := ck_some hf
  refine mw_iald X hG hT.2.1 hi15 dX5_comes_87 ?_
  refine lv_iconst (v := 1) hx hb dX5_comes_88 (by decide) ?_
  refine lv_iadd hx hb dX5_comes_89 ?_
  obtain ⟨hi16, hf⟩ := ck_some hf
  refine mw_iast X hG hT.2.1 hi16 dX5_comes_90 (fun M17 H locs eM17 hG => ?_)
  have hf := nm_of eM17 hf
  refine lv_aload_n hx hb dX5_comes_91 rfl (lv_at hl 1 rfl) ?_
  refine gf_X5_7 X hG hT dX5_comes_92 ?_
  refine lv_iload_n hx hb dX5_comes_95 rfl (lv_at hl 2 rfl) ?_
  refine lv_bipush (v := 9) hx hb dX5_comes_96 (by decide) ?_
  refine lv_iadd hx hb dX5_comes_98 ?_
  refine lv_topi (fun x18 ex18 => ?_)
  have hf := nm_of ex18 hf
  refine lv_dup2_11 hx hb dX5_comes_99 rfl rfl ?_
  obtain ⟨hi19, hf⟩ := ck_some hf
  refine mw_iald X hG hT.2.1 hi19 dX5_comes_100 ?_
  refine lv_iconst (v := 1) hx hb dX5_comes_101 (by decide) ?_
  refine lv_iadd hx hb dX5_comes_102 ?_
  obtain ⟨hi20, hf⟩ := ck_some hf
  refine mw_iast X hG hT.2.1 hi20 dX5_comes_103 (fun M21 H locs eM21 hG => ?_)
  have hf := nm_of eM21 hf
  obtain rfl := Option.some.inj hf
  exact mw_vret X hG dX5_comes_104
/-! X5_waitFor -/
set_option maxHeartbeats 4000000 in
set_option maxRecDepth 100000 in
theorem w_X5_waitFor_L45 {l : Launch} {dC : Nat → ClassId} {dI : Nat → Nat → Nat} {cy : Nat → ClassId} {a : Nat → Nat} {p : Program} {e : Env} {s : State} {m : MethodId} {args : Array Value} {below : List Frame} {meth : Method} {c : Code} (X : XU dC dI cy a p s m c args meth cX5_waitFor 5 RX5 (some .int)) {M : Mem} {this : Nat} (hT : K5 this) {v1 : Int32} {v2 : Int32} {v4 : Int32} {s0 : Int32} {s1 : Int32} {o : Int32} {k5 : Int32 → Int32 → Option Int32} (hk5 : ∀ (v3 : Int32) (v4 : Int32) (H : Heap) (locs : List Loc) (ls : Array Slot), k5 v3 v4 = some o → GU dC dI cy a s.heap M H locs → lv_has ls 5 [(0, .ref (a this)), (1, .int v1), (2, .int v2), (3, .int v3), (4, .int v4)] → W p l e ({ frames := 0, cells := 0, slots := 0, locals := 0 } : Room) s m args below meth c H locs 0 0 (MQ below (QUi dC dI cy a o M) args s 0 0 (AU a)) (F0 m 5 ls [])) {H : Heap} {locs : List Loc} {ls : Array Slot} (hf : f_X5_waitFor_L45 k5 M this v1 v2 v4 s0 s1 = some o) (hG : GU dC dI cy a s.heap M H locs) (hl : lv_has ls 5 [(0, .ref (a this)), (1, .int v1), (2, .int v2), (4, .int v4)]) : W p l e ({ frames := 0, cells := 0, slots := 0, locals := 0 } : Room) s m args below meth c H locs 0 0 (MQ below (QUi dC dI cy a o M) args s 0 0 (AU a)) (F0 m 45 ls [.int s0, .int s1]) := by
  have hx := X.1.1
  have hb := X.1.2.1
  have hown := X.1.2.2.2.1
  have hts := X.1.2.2.2.2
  rw [f_X5_waitFor_L45] at hf
  refine lv_iadd hx hb dX5_waitFor_45 ?_
  refine lv_topi (fun x1 ex1 => ?_)
  have hf := nm_of ex1 hf
  refine lv_istore_n (lv' := [(3, .int x1), (0, .ref (a this)), (1, .int v1), (2, .int v2), (4, .int v4)]) hx hb dX5_waitFor_46 rfl hl (by decide) rfl (fun ls hl => ?_)
  obtain ⟨x2, ex2⟩ : ∃ y : Int32, y = v4 + (1 : Int32) := ⟨_, rfl⟩
  have hf := nm_of ex2 hf
  refine lv_iinc (v := x2) (lv' := [(4, .int x2), (3, .int x1), (0, .ref (a this)), (1, .int v1), (2, .int v2)]) hx hb dX5_waitFor_47 hl (k := 4) rfl (by rw [ex2]; rfl) (by decide) rfl (fun ls hl => ?_)
  refine lv_goto (tgt := 5) hx hb dX5_waitFor_50 (by decide) ?_
  exact hk5 _ _ _ _ _ hf hG (lv_sub hl [2, 3, 4, 1, 0] rfl)
set_option maxHeartbeats 4000000 in
set_option maxRecDepth 100000 in
theorem w_X5_waitFor_L5 {l : Launch} {dC : Nat → ClassId} {dI : Nat → Nat → Nat} {cy : Nat → ClassId} {a : Nat → Nat} {p : Program} {e : Env} {s : State} {m : MethodId} {args : Array Value} {below : List Frame} {meth : Method} {c : Code} (X : XU dC dI cy a p s m c args meth cX5_waitFor 5 RX5 (some .int)) {M : Mem} {this : Nat} (hT : K5 this) {v1 : Int32} {v2 : Int32} {o : Int32} : ∀ (n : Nat) (v3 : Int32) (v4 : Int32) (H : Heap) (locs : List Loc) (ls : Array Slot), f_X5_waitFor_L5 M this v1 v2 n v3 v4 = some o → GU dC dI cy a s.heap M H locs → lv_has ls 5 [(0, .ref (a this)), (1, .int v1), (2, .int v2), (3, .int v3), (4, .int v4)] → W p l e ({ frames := 0, cells := 0, slots := 0, locals := 0 } : Room) s m args below meth c H locs 0 0 (MQ below (QUi dC dI cy a o M) args s 0 0 (AU a)) (F0 m 5 ls []) := by
  have hx := X.1.1
  have hb := X.1.2.1
  have hown := X.1.2.2.2.1
  have hts := X.1.2.2.2.2
  intro n
  induction n with
  | zero => intro v3 v4 H locs ls hf; cases hf
  | succ n ih =>
    intro v3 v4 H locs ls hf hG hl
    rw [f_X5_waitFor_L5] at hf
    refine lv_iload hx hb dX5_waitFor_5 (lv_at hl 4 rfl) ?_
    refine lv_aload_n hx hb dX5_waitFor_7 rfl (lv_at hl 0 rfl) ?_
    refine gf_X5_7 X hG hT dX5_waitFor_8 ?_
    refine lv_iload_n hx hb dX5_waitFor_11 rfl (lv_at hl 1 rfl) ?_
    refine lv_bipush (v := 9) hx hb dX5_waitFor_12 (by decide) ?_
    refine lv_iadd hx hb dX5_waitFor_14 ?_
    obtain ⟨hi1, hf⟩ := ck_some hf
    refine mw_iald X hG hT.2.1 hi1 dX5_waitFor_15 ?_
    refine lv_icmp_ge (tgt := 53) hx hb dX5_waitFor_16 (by decide) (fun c2 => ?_) (fun c2 => ?_)
    · have hf := itep c2 hf
      refine lv_iload_n hx hb dX5_waitFor_53 rfl (lv_at hl 3 rfl) ?_
      obtain rfl := Option.some.inj hf
      exact mw_iret X hG dX5_waitFor_54
    · have hf := iten c2 hf
      refine lv_iload_n hx hb dX5_waitFor_19 rfl (lv_at hl 3 rfl) ?_
      refine lv_aload_n hx hb dX5_waitFor_20 rfl (lv_at hl 0 rfl) ?_
      refine gf_X5_7 X hG hT dX5_waitFor_21 ?_
      refine lv_iload_n hx hb dX5_waitFor_24 rfl (lv_at hl 1 rfl) ?_
      refine lv_bipush (v := 112) hx hb dX5_waitFor_25 (by decide) ?_
      refine lv_iadd hx hb dX5_waitFor_27 ?_
      refine lv_iconst (v := 5) hx hb dX5_waitFor_28 (by decide) ?_
      refine lv_iload hx hb dX5_waitFor_29 (lv_at hl 4 rfl) ?_
      refine lv_imul hx hb dX5_waitFor_31 ?_
      refine lv_iadd hx hb dX5_waitFor_32 ?_
      refine lv_iconst (v := 0) hx hb dX5_waitFor_33 (by decide) ?_
      refine lv_iadd hx hb dX5_waitFor_34 ?_
      obtain ⟨hi3, hf⟩ := ck_some hf
      refine mw_iald X hG hT.2.1 hi3 dX5_waitFor_35 ?_
      refine lv_iload_n hx hb dX5_waitFor_36 rfl (lv_at hl 2 rfl) ?_
      refine lv_icmp_ne (tgt := 44) hx hb dX5_waitFor_37 (by decide) (fun c4 => ?_) (fun c4 => ?_)
      · have hf := iten c4 hf
        refine lv_iconst (v := 0) hx hb dX5_waitFor_44 (by decide) ?_
        exact w_X5_waitFor_L45 X hT ih hf hG (lv_sub hl [0, 1, 2, 4] rfl)
      · have hf := itep c4 hf
        refine lv_iconst (v := 1) hx hb dX5_waitFor_40 (by decide) ?_
        refine lv_goto (tgt := 45) hx hb dX5_waitFor_41 (by decide) ?_
        exact w_X5_waitFor_L45 X hT ih hf hG (lv_sub hl [0, 1, 2, 4] rfl)
set_option maxHeartbeats 4000000 in
set_option maxRecDepth 100000 in
theorem c_X5_waitFor (l : Launch) (dC : Nat → ClassId) (dI : Nat → Nat → Nat) (cy : Nat → ClassId) (a : Nat → Nat) (ha : injU a) (this : Nat) (hT : K5 this) (M : Mem) (v1 : Int32) (v2 : Int32) {o : Int32} (hf : f_X5_waitFor M this v1 v2 = some o) : Met l yX5_waitFor (wsU yX5_waitFor cX5_waitFor 5 (some .int)) ({ frames := 0, cells := 0, slots := 0, locals := 0 } : Room) (PU dC dI cy a [.ref (a this), .int v1, .int v2] M) (QUi dC dI cy a o M) 0 0 (AU a) := by
  refine mw_met (by decide) ha (Nat.le_of_ble_eq_true rfl) ?_
  intro p e s m below meth c ls X hG hl
  have hl : lv_has ls 5 [(0, .ref (a this)), (1, .int v1), (2, .int v2)] := hl
  have X : XU dC dI cy a p s m c [.ref (a this), .int v1, .int v2].toArray meth cX5_waitFor 5 RX5 (some .int) := X
  have hx := X.1.1
  have hb := X.1.2.1
  have hown := X.1.2.2.2.1
  have hts := X.1.2.2.2.2
  rw [f_X5_waitFor] at hf
  refine lv_iconst (v := 0) hx hb dX5_waitFor_0 (by decide) ?_
  refine lv_istore_n (lv' := [(3, .int (0 : Int32)), (0, .ref (a this)), (1, .int v1), (2, .int v2)]) hx hb dX5_waitFor_1 rfl hl (by decide) rfl (fun ls hl => ?_)
  refine lv_iconst (v := 0) hx hb dX5_waitFor_2 (by decide) ?_
  refine lv_istore (lv' := [(4, .int (0 : Int32)), (3, .int (0 : Int32)), (0, .ref (a this)), (1, .int v1), (2, .int v2)]) hx hb dX5_waitFor_3 hl (by decide) rfl (fun ls hl => ?_)
  exact w_X5_waitFor_L5 X hT 1000 _ _ _ _ _ hf hG (lv_sub hl [2, 3, 4, 1, 0] rfl)
/-! X5_isPromised -/
set_option maxHeartbeats 4000000 in
set_option maxRecDepth 100000 in
theorem w_X5_isPromised_L73 {l : Launch} {dC : Nat → ClassId} {dI : Nat → Nat → Nat} {cy : Nat → ClassId} {a : Nat → Nat} {p : Program} {e : Env} {s : State} {m : MethodId} {args : Array Value} {below : List Frame} {meth : Method} {c : Code} (X : XU dC dI cy a p s m c args meth cX5_isPromised 5 RX5 (some .boolean)) {M : Mem} {this : Nat} (hT : K5 this) {v1 : Int32} {v2 : Int32} {v4 : Int32} {s0 : Int32} {o : Int32} {k5 : Int32 → Int32 → Option Int32} (hk5 : ∀ (v3 : Int32) (v4 : Int32) (H : Heap) (locs : List Loc) (ls : Array Slot), k5 v3 v4 = some o → GU dC dI cy a s.heap M H locs → lv_has ls 5 [(0, .ref (a this)), (1, .int v1), (2, .int v2), (3, .int v3), (4, .int v4)] → W p l e ({ frames := 1, cells := 0, slots := 0, locals := 21 } : Room) s m args below meth c H locs 0 0 (MQ below (QUi dC dI cy a o M) args s 0 0 (AU a)) (F0 m 5 ls [])) {H : Heap} {locs : List Loc} {ls : Array Slot} (hf : f_X5_isPromised_L73 k5 M this v1 v2 v4 s0 = some o) (hG : GU dC dI cy a s.heap M H locs) (hl : lv_has ls 5 [(0, .ref (a this)), (1, .int v1), (2, .int v2), (4, .int v4)]) : W p l e ({ frames := 1, cells := 0, slots := 0, locals := 21 } : Room) s m args below meth c H locs 0 0 (MQ below (QUi dC dI cy a o M) args s 0 0 (AU a)) (F0 m 73 ls [.int s0]) := by
  have hx := X.1.1
  have hb := X.1.2.1
  have hown := X.1.2.2.2.1
  have hts := X.1.2.2.2.2
  rw [f_X5_isPromised_L73] at hf
  refine lv_istore_n (lv' := [(3, .int s0), (0, .ref (a this)), (1, .int v1), (2, .int v2), (4, .int v4)]) hx hb dX5_isPromised_73 rfl hl (by decide) rfl (fun ls hl => ?_)
  obtain ⟨x1, ex1⟩ : ∃ y : Int32, y = v4 + (1 : Int32) := ⟨_, rfl⟩
  have hf := nm_of ex1 hf
  refine lv_iinc (v := x1) (lv' := [(4, .int x1), (3, .int s0), (0, .ref (a this)), (1, .int v1), (2, .int v2)]) hx hb dX5_isPromised_74 hl (k := 4) rfl (by rw [ex1]; rfl) (by decide) rfl (fun ls hl => ?_)
  refine lv_goto (tgt := 5) hx hb dX5_isPromised_77 (by decide) ?_
  exact hk5 _ _ _ _ _ hf hG (lv_sub hl [2, 3, 4, 1, 0] rfl)
set_option maxHeartbeats 4000000 in
set_option maxRecDepth 100000 in
theorem w_X5_isPromised_L68 {l : Launch} {dC : Nat → ClassId} {dI : Nat → Nat → Nat} {cy : Nat → ClassId} {a : Nat → Nat} {p : Program} {e : Env} {s : State} {m : MethodId} {args : Array Value} {below : List Frame} {meth : Method} {c : Code} (X : XU dC dI cy a p s m c args meth cX5_isPromised 5 RX5 (some .boolean)) {M : Mem} {this : Nat} (hT : K5 this) {v1 : Int32} {v2 : Int32} {v4 : Int32} {o : Int32} {k5 : Int32 → Int32 → Option Int32} (hk5 : ∀ (v3 : Int32) (v4 : Int32) (H : Heap) (locs : List Loc) (ls : Array Slot), k5 v3 v4 = some o → GU dC dI cy a s.heap M H locs → lv_has ls 5 [(0, .ref (a this)), (1, .int v1), (2, .int v2), (3, .int v3), (4, .int v4)] → W p l e ({ frames := 1, cells := 0, slots := 0, locals := 21 } : Room) s m args below meth c H locs 0 0 (MQ below (QUi dC dI cy a o M) args s 0 0 (AU a)) (F0 m 5 ls [])) {H : Heap} {locs : List Loc} {ls : Array Slot} (hf : f_X5_isPromised_L68 k5 M this v1 v2 v4 = some o) (hG : GU dC dI cy a s.heap M H locs) (hl : lv_has ls 5 [(0, .ref (a this)), (1, .int v1), (2, .int v2), (4, .int v4)]) : W p l e ({ frames := 1, cells := 0, slots := 0, locals := 21 } : Room) s m args below meth c H locs 0 0 (MQ below (QUi dC dI cy a o M) args s 0 0 (AU a)) (F0 m 68 ls []) := by
  have hx := X.1.1
  have hb := X.1.2.1
  have hown := X.1.2.2.2.1
  have hts := X.1.2.2.2.2
  rw [f_X5_isPromised_L68] at hf
  refine lv_iconst (v := 1) hx hb dX5_isPromised_68 (by decide) ?_
  refine lv_goto (tgt := 73) hx hb dX5_isPromised_69 (by decide) ?_
  exact w_X5_isPromised_L73 X hT hk5 hf hG (lv_sub hl [0, 1, 2, 3] rfl)
set_option maxHeartbeats 4000000 in
set_option maxRecDepth 100000 in
theorem w_X5_isPromised_L72 {l : Launch} {dC : Nat → ClassId} {dI : Nat → Nat → Nat} {cy : Nat → ClassId} {a : Nat → Nat} {p : Program} {e : Env} {s : State} {m : MethodId} {args : Array Value} {below : List Frame} {meth : Method} {c : Code} (X : XU dC dI cy a p s m c args meth cX5_isPromised 5 RX5 (some .boolean)) {M : Mem} {this : Nat} (hT : K5 this) {v1 : Int32} {v2 : Int32} {v4 : Int32} {o : Int32} {k5 : Int32 → Int32 → Option Int32} (hk5 : ∀ (v3 : Int32) (v4 : Int32) (H : Heap) (locs : List Loc) (ls : Array Slot), k5 v3 v4 = some o → GU dC dI cy a s.heap M H locs → lv_has ls 5 [(0, .ref (a this)), (1, .int v1), (2, .int v2), (3, .int v3), (4, .int v4)] → W p l e ({ frames := 1, cells := 0, slots := 0, locals := 21 } : Room) s m args below meth c H locs 0 0 (MQ below (QUi dC dI cy a o M) args s 0 0 (AU a)) (F0 m 5 ls [])) {H : Heap} {locs : List Loc} {ls : Array Slot} (hf : f_X5_isPromised_L72 k5 M this v1 v2 v4 = some o) (hG : GU dC dI cy a s.heap M H locs) (hl : lv_has ls 5 [(0, .ref (a this)), (1, .int v1), (2, .int v2), (4, .int v4)]) : W p l e ({ frames := 1, cells := 0, slots := 0, locals := 21 } : Room) s m args below meth c H locs 0 0 (MQ below (QUi dC dI cy a o M) args s 0 0 (AU a)) (F0 m 72 ls []) := by
  have hx := X.1.1
  have hb := X.1.2.1
  have hown := X.1.2.2.2.1
  have hts := X.1.2.2.2.2
  rw [f_X5_isPromised_L72] at hf
  refine lv_iconst (v := 0) hx hb dX5_isPromised_72 (by decide) ?_
  exact w_X5_isPromised_L73 X hT hk5 hf hG (lv_sub hl [0, 1, 2, 3] rfl)
set_option maxHeartbeats 4000000 in
set_option maxRecDepth 100000 in
theorem w_X5_isPromised_L5 {l : Launch} {dC : Nat → ClassId} {dI : Nat → Nat → Nat} {cy : Nat → ClassId} {a : Nat → Nat} {p : Program} {e : Env} {s : State} {m : MethodId} {args : Array Value} {below : List Frame} {meth : Method} {c : Code} (X : XU dC dI cy a p s m c args meth cX5_isPromised 5 RX5 (some .boolean)) {M : Mem} {this : Nat} (hT : K5 this) {v1 : Int32} {v2 : Int32} {o : Int32} : ∀ (n : Nat) (v3 : Int32) (v4 : Int32) (H : Heap) (locs : List Loc) (ls : Array Slot), f_X5_isPromised_L5 M this v1 v2 n v3 v4 = some o → GU dC dI cy a s.heap M H locs → lv_has ls 5 [(0, .ref (a this)), (1, .int v1), (2, .int v2), (3, .int v3), (4, .int v4)] → W p l e ({ frames := 1, cells := 0, slots := 0, locals := 21 } : Room) s m args below meth c H locs 0 0 (MQ below (QUi dC dI cy a o M) args s 0 0 (AU a)) (F0 m 5 ls []) := by
  have hx := X.1.1
  have hb := X.1.2.1
  have hown := X.1.2.2.2.1
  have hts := X.1.2.2.2.2
  intro n
  induction n with
  | zero => intro v3 v4 H locs ls hf; cases hf
  | succ n ih =>
    intro v3 v4 H locs ls hf hG hl
    rw [f_X5_isPromised_L5] at hf
    refine lv_iload hx hb dX5_isPromised_5 (lv_at hl 4 rfl) ?_
    refine lv_aload_n hx hb dX5_isPromised_7 rfl (lv_at hl 0 rfl) ?_
    refine gf_X5_7 X hG hT dX5_isPromised_8 ?_
    refine lv_iconst (v := 1) hx hb dX5_isPromised_11 (by decide) ?_
    obtain ⟨hi1, hf⟩ := ck_some hf
    refine mw_iald X hG hT.2.1 hi1 dX5_isPromised_12 ?_
    refine lv_icmp_ge (tgt := 80) hx hb dX5_isPromised_13 (by decide) (fun c2 => ?_) (fun c2 => ?_)
    · have hf := itep c2 hf
      refine lv_iload_n hx hb dX5_isPromised_80 rfl (lv_at hl 3 rfl) ?_
      obtain ⟨hz3, hf⟩ := zk_some hf
      obtain rfl := Option.some.inj hf
      exact mw_zret X hG (zk_nar hz3) dX5_isPromised_81
    · have hf := iten c2 hf
      refine lv_iload_n hx hb dX5_isPromised_16 rfl (lv_at hl 3 rfl) ?_
      refine lv_if_ne (tgt := 68) hx hb dX5_isPromised_17 (by decide) (fun c4 => ?_) (fun c4 => ?_)
      · have hf := iten c4 hf
        exact w_X5_isPromised_L68 X hT ih hf hG (lv_sub hl [0, 1, 2, 4] rfl)
      · have hf := itep c4 hf
        refine lv_aload_n hx hb dX5_isPromised_20 rfl (lv_at hl 0 rfl) ?_
        refine gf_X5_7 X hG hT dX5_isPromised_21 ?_
        refine lv_iconst (v := 0) hx hb dX5_isPromised_24 (by decide) ?_
        refine lv_iload hx hb dX5_isPromised_25 (lv_at hl 4 rfl) ?_
        obtain ⟨x5, hr6, hf⟩ := bd_some hf
        refine mw_callSi (rest := [.ref (a (this + 1))]) X hG (c_X5_at l dC dI cy a X.2.2.1  M (0 : Int32) v4 hr6) (mw_cwS X 2 g_X5_34 hd_X5_at ⟨rfl, rfl⟩ ⟨Nat.le_of_ble_eq_true rfl, Nat.le_of_ble_eq_true rfl⟩) rfl hl.1 rfl (Nat.le_of_ble_eq_true rfl) dX5_isPromised_27 (fun H locs hG => ?_)
        refine lv_iconst (v := 0) hx hb dX5_isPromised_30 (by decide) ?_
        refine lv_iadd hx hb dX5_isPromised_31 ?_
        obtain ⟨hi7, hf⟩ := ck_some hf
        refine mw_iald X hG hT.2.1 hi7 dX5_isPromised_32 ?_
        refine lv_iload_n hx hb dX5_isPromised_33 rfl (lv_at hl 1 rfl) ?_
        refine lv_icmp_ne (tgt := 72) hx hb dX5_isPromised_34 (by decide) (fun c8 => ?_) (fun c8 => ?_)
        · have hf := iten c8 hf
          exact w_X5_isPromised_L72 X hT ih hf hG (lv_sub hl [0, 1, 2, 4] rfl)
        · have hf := itep c8 hf
          refine lv_aload_n hx hb dX5_isPromised_37 rfl (lv_at hl 0 rfl) ?_
          refine gf_X5_7 X hG hT dX5_isPromised_38 ?_
          refine lv_iconst (v := 0) hx hb dX5_isPromised_41 (by decide) ?_
          refine lv_iload hx hb dX5_isPromised_42 (lv_at hl 4 rfl) ?_
          obtain ⟨x9, hr10, hf⟩ := bd_some hf
          refine mw_callSi (rest := [.ref (a (this + 1))]) X hG (c_X5_at l dC dI cy a X.2.2.1  M (0 : Int32) v4 hr10) (mw_cwS X 2 g_X5_34 hd_X5_at ⟨rfl, rfl⟩ ⟨Nat.le_of_ble_eq_true rfl, Nat.le_of_ble_eq_true rfl⟩) rfl hl.1 rfl (Nat.le_of_ble_eq_true rfl) dX5_isPromised_44 (fun H locs hG => ?_)
          refine lv_iconst (v := 4) hx hb dX5_isPromised_47 (by decide) ?_
          refine lv_iadd hx hb dX5_isPromised_48 ?_
          obtain ⟨hi11, hf⟩ := ck_some hf
          refine mw_iald X hG hT.2.1 hi11 dX5_isPromised_49 ?_
          refine lv_iload_n hx hb dX5_isPromised_50 rfl (lv_at hl 2 rfl) ?_
          refine lv_aload_n hx hb dX5_isPromised_51 rfl (lv_at hl 0 rfl) ?_
          refine gf_X5_7 X hG hT dX5_isPromised_52 ?_
          refine lv_iconst (v := 0) hx hb dX5_isPromised_55 (by decide) ?_
          refine lv_iload hx hb dX5_isPromised_56 (lv_at hl 4 rfl) ?_
          obtain ⟨x12, hr13, hf⟩ := bd_some hf
          refine mw_callSi (rest := [.ref (a (this + 1)), .int v2, .int (rd M (this + 1) (x9 + (4 : Int32)).toNatClampNeg)]) X hG (c_X5_at l dC dI cy a X.2.2.1  M (0 : Int32) v4 hr13) (mw_cwS X 2 g_X5_34 hd_X5_at ⟨rfl, rfl⟩ ⟨Nat.le_of_ble_eq_true rfl, Nat.le_of_ble_eq_true rfl⟩) rfl hl.1 rfl (Nat.le_of_ble_eq_true rfl) dX5_isPromised_58 (fun H locs hG => ?_)
          refine lv_iconst (v := 2) hx hb dX5_isPromised_61 (by decide) ?_
          refine lv_iadd hx hb dX5_isPromised_62 ?_
          obtain ⟨hi14, hf⟩ := ck_some hf
          refine mw_iald X hG hT.2.1 hi14 dX5_isPromised_63 ?_
          refine lv_iadd hx hb dX5_isPromised_64 ?_
          refine lv_icmp_le (tgt := 72) hx hb dX5_isPromised_65 (by decide) (fun c15 => ?_) (fun c15 => ?_)
          · have hf := itep c15 hf
            exact w_X5_isPromised_L72 X hT ih hf hG (lv_sub hl [0, 1, 2, 4] rfl)
          · have hf := iten c15 hf
            exact w_X5_isPromised_L68 X hT ih hf hG (lv_sub hl [0, 1, 2, 4] rfl)
set_option maxHeartbeats 4000000 in
set_option maxRecDepth 100000 in
theorem c_X5_isPromised (l : Launch) (dC : Nat → ClassId) (dI : Nat → Nat → Nat) (cy : Nat → ClassId) (a : Nat → Nat) (ha : injU a) (this : Nat) (hT : K5 this) (M : Mem) (v1 : Int32) (v2 : Int32) {o : Int32} (hf : f_X5_isPromised M this v1 v2 = some o) : Met l yX5_isPromised (wsU yX5_isPromised cX5_isPromised 5 (some .boolean)) ({ frames := 1, cells := 0, slots := 0, locals := 21 } : Room) (PU dC dI cy a [.ref (a this), .int v1, .int v2] M) (QUi dC dI cy a o M) 0 0 (AU a) := by
  refine mw_met (by decide) ha (Nat.le_of_ble_eq_true rfl) ?_
  intro p e s m below meth c ls X hG hl
  have hl : lv_has ls 5 [(0, .ref (a this)), (1, .int v1), (2, .int v2)] := hl
  have X : XU dC dI cy a p s m c [.ref (a this), .int v1, .int v2].toArray meth cX5_isPromised 5 RX5 (some .boolean) := X
  have hx := X.1.1
  have hb := X.1.2.1
  have hown := X.1.2.2.2.1
  have hts := X.1.2.2.2.2
  rw [f_X5_isPromised] at hf
  refine lv_iconst (v := 0) hx hb dX5_isPromised_0 (by decide) ?_
  refine lv_istore_n (lv' := [(3, .int (0 : Int32)), (0, .ref (a this)), (1, .int v1), (2, .int v2)]) hx hb dX5_isPromised_1 rfl hl (by decide) rfl (fun ls hl => ?_)
  refine lv_iconst (v := 0) hx hb dX5_isPromised_2 (by decide) ?_
  refine lv_istore (lv' := [(4, .int (0 : Int32)), (3, .int (0 : Int32)), (0, .ref (a this)), (1, .int v1), (2, .int v2)]) hx hb dX5_isPromised_3 hl (by decide) rfl (fun ls hl => ?_)
  exact w_X5_isPromised_L5 X hT 1000 _ _ _ _ _ hf hG (lv_sub hl [2, 3, 4, 1, 0] rfl)
/-! X5_event -/
set_option maxHeartbeats 4000000 in
set_option maxRecDepth 100000 in
theorem w_X5_event_L35 {l : Launch} {dC : Nat → ClassId} {dI : Nat → Nat → Nat} {cy : Nat → ClassId} {a : Nat → Nat} {p : Program} {e : Env} {s : State} {m : MethodId} {args : Array Value} {below : List Frame} {meth : Method} {c : Code} (X : XU dC dI cy a p s m c args meth cX5_event 4 RX5 (some .int)) {M : Mem} {this : Nat} (hT : K5 this) {o : (Int32 × Mem)} {H : Heap} {locs : List Loc} {ls : Array Slot} (hf : f_X5_event_L35 M this = some o) (hG : GU dC dI cy a s.heap M H locs) (hl : lv_has ls 4 [(0, .ref (a this))]) : W p l e ({ frames := 2, cells := 0, slots := 0, locals := 46 } : Room) s m args below meth c H locs 0 0 (MQ below (QUi dC dI cy a o.1 o.2) args s 0 0 (AU a)) (F0 m 35 ls []) := by
  have hx := X.1.1
  have hb := X.1.2.1
  have hown := X.1.2.2.2.1
  have hts := X.1.2.2.2.2
  rw [f_X5_event_L35] at hf
  refine lv_ldc (v := -1000000002) hx hb hown (hts _ wd_ct_X5_29) dX5_event_35 ?_
  obtain rfl := Option.some.inj hf
  exact mw_iret X hG dX5_event_37
set_option maxHeartbeats 4000000 in
set_option maxRecDepth 100000 in
theorem w_X5_event_L72 {l : Launch} {dC : Nat → ClassId} {dI : Nat → Nat → Nat} {cy : Nat → ClassId} {a : Nat → Nat} {p : Program} {e : Env} {s : State} {m : MethodId} {args : Array Value} {below : List Frame} {meth : Method} {c : Code} (X : XU dC dI cy a p s m c args meth cX5_event 4 RX5 (some .int)) {M : Mem} {this : Nat} (hT : K5 this) {o : (Int32 × Mem)} {H : Heap} {locs : List Loc} {ls : Array Slot} (hf : f_X5_event_L72 M this = some o) (hG : GU dC dI cy a s.heap M H locs) (hl : lv_has ls 4 [(0, .ref (a this))]) : W p l e ({ frames := 2, cells := 0, slots := 0, locals := 46 } : Room) s m args below meth c H locs 0 0 (MQ below (QUi dC dI cy a o.1 o.2) args s 0 0 (AU a)) (F0 m 72 ls []) := by
  have hx := X.1.1
  have hb := X.1.2.1
  have hown := X.1.2.2.2.1
  have hts := X.1.2.2.2.2
  rw [f_X5_event_L72] at hf
  refine lv_ldc (v := -1000000003) hx hb hown (hts _ wd_ct_X5_48) dX5_event_72 ?_
  obtain rfl := Option.some.inj hf
  exact mw_iret X hG dX5_event_74
set_option maxHeartbeats 4000000 in
set_option maxRecDepth 100000 in
theorem w_X5_event_L63 {l : Launch} {dC : Nat → ClassId} {dI : Nat → Nat → Nat} {cy : Nat → ClassId} {a : Nat → Nat} {p : Program} {e : Env} {s : State} {m : MethodId} {args : Array Value} {below : List Frame} {meth : Method} {c : Code} (X : XU dC dI cy a p s m c args meth cX5_event 4 RX5 (some .int)) {M : Mem} {this : Nat} (hT : K5 this) {v1 : Int32} {v2 : Int32} {v3 : Int32} {o : (Int32 × Mem)} {H : Heap} {locs : List Loc} {ls : Array Slot} (hf : f_X5_event_L63 M this v1 v2 v3 = some o) (hG : GU dC dI cy a s.heap M H locs) (hl : lv_has ls 4 [(0, .ref (a this)), (1, .int v1), (2, .int v2), (3, .int v3)]) : W p l e ({ frames := 2, cells := 0, slots := 0, locals := 46 } : Room) s m args below meth c H locs 0 0 (MQ below (QUi dC dI cy a o.1 o.2) args s 0 0 (AU a)) (F0 m 63 ls []) := by
  have hx := X.1.1
  have hb := X.1.2.1
  have hown := X.1.2.2.2.1
  have hts := X.1.2.2.2.2
  rw [f_X5_event_L63] at hf
  refine lv_aload_n hx hb dX5_event_63 rfl (lv_at hl 0 rfl) ?_
  refine lv_iload_n hx hb dX5_event_64 rfl (lv_at hl 1 rfl) ?_
  refine lv_iload_n hx hb dX5_event_65 rfl (lv_at hl 2 rfl) ?_
  obtain ⟨x1, hr2, hf⟩ := bd_some hf
  refine mw_callVi (rest := []) X hG hT.1 rfl (c_X5_isPromised l dC dI cy a X.2.2.1 this hT M v1 v2 hr2) (mw_cwV X 2 g_X5_52 hd_X5_isPromised ⟨rfl, rfl⟩ ⟨Nat.le_of_ble_eq_true rfl, Nat.le_of_ble_eq_true rfl⟩) rfl hl.1 rfl (Nat.le_of_ble_eq_true rfl) dX5_event_66 (fun H locs hG => ?_)
  refine lv_if_eq (tgt := 75) hx hb dX5_event_69 (by decide) (fun c3 => ?_) (fun c3 => ?_)
  · have hf := itep c3 hf
    refine lv_aload_n hx hb dX5_event_75 rfl (lv_at hl 0 rfl) ?_
    refine gf_X5_7 X hG hT dX5_event_76 ?_
    refine lv_bipush (v := 7) hx hb dX5_event_79 (by decide) ?_
    obtain ⟨hi4, hf⟩ := ck_some hf
    refine mw_iald X hG hT.2.1 hi4 dX5_event_81 ?_
    refine lv_bipush (v := 30) hx hb dX5_event_82 (by decide) ?_
    refine lv_icmp_ne (tgt := 90) hx hb dX5_event_84 (by decide) (fun c5 => ?_) (fun c5 => ?_)
    · have hf := iten c5 hf
      refine lv_aload_n hx hb dX5_event_90 rfl (lv_at hl 0 rfl) ?_
      refine lv_iconst (v := 0) hx hb dX5_event_91 (by decide) ?_
      refine lv_iload_n hx hb dX5_event_92 rfl (lv_at hl 1 rfl) ?_
      refine lv_iload_n hx hb dX5_event_93 rfl (lv_at hl 2 rfl) ?_
      refine lv_iconst (v := -1) hx hb dX5_event_94 (by decide) ?_
      refine lv_iload_n hx hb dX5_event_95 rfl (lv_at hl 3 rfl) ?_
      obtain ⟨M6, hr8, hf⟩ := bd_some hf
      refine mw_callVv (rest := []) X hG hT.1 rfl (c_X5_comes l dC dI cy a X.2.2.1 this hT M (0 : Int32) v1 v2 (-1 : Int32) v3 hr8) (mw_cwV X 5 g_X5_56 hd_X5_comes ⟨rfl, rfl⟩ ⟨Nat.le_of_ble_eq_true rfl, Nat.le_of_ble_eq_true rfl⟩) rfl hl.1 rfl (Nat.le_of_ble_eq_true rfl) dX5_event_96 (fun H locs hG => ?_)
      refine lv_aload_n hx hb dX5_event_99 rfl (lv_at hl 0 rfl) ?_
      refine gf_X5_7 X hG hT dX5_event_100 ?_
      refine lv_bipush (v := 7) hx hb dX5_event_103 (by decide) ?_
      refine lv_dup2_11 hx hb dX5_event_105 rfl rfl ?_
      obtain ⟨hi9, hf⟩ := ck_some hf
      refine mw_iald X hG hT.2.1 hi9 dX5_event_106 ?_
      refine lv_iconst (v := 1) hx hb dX5_event_107 (by decide) ?_
      refine lv_iadd hx hb dX5_event_108 ?_
      obtain ⟨hi10, hf⟩ := ck_some hf
      refine mw_iast X hG hT.2.1 hi10 dX5_event_109 (fun M11 H locs eM11 hG => ?_)
      have hf := nm_of eM11 hf
      refine lv_aload_n hx hb dX5_event_110 rfl (lv_at hl 0 rfl) ?_
      refine lv_iconst (v := 0) hx hb dX5_event_111 (by decide) ?_
      refine lv_iload_n hx hb dX5_event_112 rfl (lv_at hl 1 rfl) ?_
      obtain ⟨x12, hr13, hf⟩ := bd_some hf
      refine mw_callVi (rest := []) X hG hT.1 rfl (c_X5_waitFor l dC dI cy a X.2.2.1 this hT M11 (0 : Int32) v1 hr13) (mw_cwV X 2 g_X5_60 hd_X5_waitFor ⟨rfl, rfl⟩ ⟨Nat.le_of_ble_eq_true rfl, Nat.le_of_ble_eq_true rfl⟩) rfl hl.1 rfl (Nat.le_of_ble_eq_true rfl) dX5_event_113 (fun H locs hG => ?_)
      obtain rfl := Option.some.inj hf
      exact mw_iret X hG dX5_event_116
    · have hf := itep c5 hf
      refine lv_ldc (v := -1000000004) hx hb hown (hts _ wd_ct_X5_49) dX5_event_87 ?_
      obtain rfl := Option.some.inj hf
      exact mw_iret X hG dX5_event_89
  · have hf := iten c3 hf
    exact w_X5_event_L72 X hT hf hG (lv_sub hl [0] rfl)
set_option maxHeartbeats 4000000 in
set_option maxRecDepth 100000 in
theorem c_X5_event (l : Launch) (dC : Nat → ClassId) (dI : Nat → Nat → Nat) (cy : Nat → ClassId) (a : Nat → Nat) (ha : injU a) (this : Nat) (hT : K5 this) (M : Mem) (v1 : Int32) (v2 : Int32) (v3 : Int32) {o : (Int32 × Mem)} (hf : f_X5_event M this v1 v2 v3 = some o) : Met l yX5_event (wsU yX5_event cX5_event 4 (some .int)) ({ frames := 2, cells := 0, slots := 0, locals := 46 } : Room) (PU dC dI cy a [.ref (a this), .int v1, .int v2, .int v3] M) (QUi dC dI cy a o.1 o.2) 0 0 (AU a) := by
  refine mw_met (by decide) ha (Nat.le_of_ble_eq_true rfl) ?_
  intro p e s m below meth c ls X hG hl
  have hl : lv_has ls 4 [(0, .ref (a this)), (1, .int v1), (2, .int v2), (3, .int v3)] := hl
  have X : XU dC dI cy a p s m c [.ref (a this), .int v1, .int v2, .int v3].toArray meth cX5_event 4 RX5 (some .int) := X
  have hx := X.1.1
  have hb := X.1.2.1
  have hown := X.1.2.2.2.1
  have hts := X.1.2.2.2.2
  rw [f_X5_event] at hf
  refine lv_aload_n hx hb dX5_event_0 rfl (lv_at hl 0 rfl) ?_
  refine lv_iload_n hx hb dX5_event_1 rfl (lv_at hl 1 rfl) ?_
  obtain ⟨x1, hr2, hf⟩ := bd_some hf
  refine mw_callVi (rest := []) X hG hT.1 rfl (c_X5_isPart l dC dI cy a X.2.2.1 this hT M v1 hr2) (mw_cwV X 1 g_X5_38 hd_X5_isPart ⟨rfl, rfl⟩ ⟨Nat.le_of_ble_eq_true rfl, Nat.le_of_ble_eq_true rfl⟩) rfl hl.1 rfl (Nat.le_of_ble_eq_true rfl) dX5_event_2 (fun H locs hG => ?_)
  refine lv_if_ne (tgt := 11) hx hb dX5_event_5 (by decide) (fun c3 => ?_) (fun c3 => ?_)
  · have hf := iten c3 hf
    refine lv_iload_n hx hb dX5_event_11 rfl (lv_at hl 2 rfl) ?_
    refine lv_i2l (v := v2.toInt64) hx hb dX5_event_12 rfl ?_
    refine lv_lconst (v := 0) hx hb dX5_event_13 (by decide) ?_
    refine lv_ldc2 (v := 9999) hx hb hown (hts _ wd_cl_X5_50) dX5_event_14 ?_
    obtain ⟨x4, hr5, hf⟩ := bd_some hf
    refine mw_callSi (rest := []) X hG (c_X5_in l dC dI cy a X.2.2.1  M (v2.toInt64) (0 : Int64) (9999 : Int64) hr5) (mw_cwS X 3 g_X5_23 hd_X5_in ⟨rfl, rfl⟩ ⟨Nat.le_of_ble_eq_true rfl, Nat.le_of_ble_eq_true rfl⟩) rfl hl.1 rfl (Nat.le_of_ble_eq_true rfl) dX5_event_17 (fun H locs hG => ?_)
    refine lv_if_eq (tgt := 35) hx hb dX5_event_20 (by decide) (fun c6 => ?_) (fun c6 => ?_)
    · have hf := itep c6 hf
      exact w_X5_event_L35 X hT hf hG (lv_sub hl [0] rfl)
    · have hf := iten c6 hf
      refine lv_iload_n hx hb dX5_event_23 rfl (lv_at hl 3 rfl) ?_
      refine lv_i2l (v := v3.toInt64) hx hb dX5_event_24 rfl ?_
      refine lv_lconst (v := 0) hx hb dX5_event_25 (by decide) ?_
      refine lv_ldc2 (v := 99) hx hb hown (hts _ wd_cl_X5_43) dX5_event_26 ?_
      obtain ⟨x7, hr8, hf⟩ := bd_some hf
      refine mw_callSi (rest := []) X hG (c_X5_in l dC dI cy a X.2.2.1  M (v3.toInt64) (0 : Int64) (99 : Int64) hr8) (mw_cwS X 3 g_X5_23 hd_X5_in ⟨rfl, rfl⟩ ⟨Nat.le_of_ble_eq_true rfl, Nat.le_of_ble_eq_true rfl⟩) rfl hl.1 rfl (Nat.le_of_ble_eq_true rfl) dX5_event_29 (fun H locs hG => ?_)
      refine lv_if_ne (tgt := 38) hx hb dX5_event_32 (by decide) (fun c9 => ?_) (fun c9 => ?_)
      · have hf := iten c9 hf
        refine lv_aload_n hx hb dX5_event_38 rfl (lv_at hl 0 rfl) ?_
        refine gf_X5_7 X hG hT dX5_event_39 ?_
        refine lv_bipush (v := 10) hx hb dX5_event_42 (by decide) ?_
        refine lv_iload_n hx hb dX5_event_44 rfl (lv_at hl 1 rfl) ?_
        refine lv_iadd hx hb dX5_event_45 ?_
        obtain ⟨hi10, hf⟩ := ck_some hf
        refine mw_iald X hG hT.2.1 hi10 dX5_event_46 ?_
        refine lv_if_le (tgt := 63) hx hb dX5_event_47 (by decide) (fun c11 => ?_) (fun c11 => ?_)
        · have hf := itep c11 hf
          exact w_X5_event_L63 X hT hf hG (lv_sub hl [0, 1, 2, 3] rfl)
        · have hf := iten c11 hf
          refine lv_aload_n hx hb dX5_event_50 rfl (lv_at hl 0 rfl) ?_
          refine gf_X5_7 X hG hT dX5_event_51 ?_
          refine lv_bipush (v := 22) hx hb dX5_event_54 (by decide) ?_
          refine lv_iload_n hx hb dX5_event_56 rfl (lv_at hl 1 rfl) ?_
          refine lv_iadd hx hb dX5_event_57 ?_
          obtain ⟨hi12, hf⟩ := ck_some hf
          refine mw_iald X hG hT.2.1 hi12 dX5_event_58 ?_
          refine lv_iload_n hx hb dX5_event_59 rfl (lv_at hl 2 rfl) ?_
          refine lv_icmp_ge (tgt := 72) hx hb dX5_event_60 (by decide) (fun c13 => ?_) (fun c13 => ?_)
          · have hf := itep c13 hf
            exact w_X5_event_L72 X hT hf hG (lv_sub hl [0] rfl)
          · have hf := iten c13 hf
            exact w_X5_event_L63 X hT hf hG (lv_sub hl [0, 1, 2, 3] rfl)
      · have hf := itep c9 hf
        exact w_X5_event_L35 X hT hf hG (lv_sub hl [0] rfl)
  · have hf := itep c3 hf
    refine lv_ldc (v := -1000000001) hx hb hown (hts _ wd_ct_X5_42) dX5_event_8 ?_
    obtain rfl := Option.some.inj hf
    exact mw_iret X hG dX5_event_10
