/-! X4_isOutside -/
set_option maxHeartbeats 4000000 in
set_option maxRecDepth 100000 in
theorem w_X4_isOutside_L15 {l : Launch} {dC : Nat → ClassId} {dI : Nat → Nat → Nat} {cy : Nat → ClassId} {a : Nat → Nat} {p : Program} {e : Env} {s : State} {m : MethodId} {args : Array Value} {below : List Frame} {meth : Method} {c : Code} (X : XU dC dI cy a p s m c args meth cX4_isOutside 3 RX4 (some .boolean)) {M : Mem} {s0 : Int32} {o : Int32} {H : Heap} {locs : List Loc} {ls : Array Slot} (hf : f_X4_isOutside_L15 s0 = some o) (hG : GU dC dI cy a s.heap M H locs) (hl : lv_has ls 3 []) : W p l e ({ frames := 0, cells := 0, slots := 0, locals := 0 } : Room) s m args below meth c H locs 0 0 (MQ below (QUi dC dI cy a o M) args s 0 0 (AU a)) (F0 m 15 ls [.int s0]) := by
  have hx := X.1.1
  have hb := X.1.2.1
  have hown := X.1.2.2.2.1
  have hts := X.1.2.2.2.2
  rw [f_X4_isOutside_L15] at hf
  obtain ⟨hz1, hf⟩ := zk_some hf
  obtain rfl := Option.some.inj hf
  exact mw_zret X hG (zk_nar hz1) dX4_isOutside_15
set_option maxHeartbeats 4000000 in
set_option maxRecDepth 100000 in
theorem w_X4_isOutside_L10 {l : Launch} {dC : Nat → ClassId} {dI : Nat → Nat → Nat} {cy : Nat → ClassId} {a : Nat → Nat} {p : Program} {e : Env} {s : State} {m : MethodId} {args : Array Value} {below : List Frame} {meth : Method} {c : Code} (X : XU dC dI cy a p s m c args meth cX4_isOutside 3 RX4 (some .boolean)) {M : Mem} {o : Int32} {H : Heap} {locs : List Loc} {ls : Array Slot} (hf : f_X4_isOutside_L10  = some o) (hG : GU dC dI cy a s.heap M H locs) (hl : lv_has ls 3 []) : W p l e ({ frames := 0, cells := 0, slots := 0, locals := 0 } : Room) s m args below meth c H locs 0 0 (MQ below (QUi dC dI cy a o M) args s 0 0 (AU a)) (F0 m 10 ls []) := by
  have hx := X.1.1
  have hb := X.1.2.1
  have hown := X.1.2.2.2.1
  have hts := X.1.2.2.2.2
  rw [f_X4_isOutside_L10] at hf
  refine lv_iconst (v := 1) hx hb dX4_isOutside_10 (by decide) ?_
  refine lv_goto (tgt := 15) hx hb dX4_isOutside_11 (by decide) ?_
  exact w_X4_isOutside_L15 X hf hG (lv_sub hl [] rfl)
set_option maxHeartbeats 4000000 in
set_option maxRecDepth 100000 in
theorem c_X4_isOutside (l : Launch) (dC : Nat → ClassId) (dI : Nat → Nat → Nat) (cy : Nat → ClassId) (a : Nat → Nat) (ha : injU a) (M : Mem) (v0 : Int32) (v1 : Int32) (v2 : Int32) {o : Int32} (hf : f_X4_isOutside v0 v1 v2 = some o) : Met l yX4_isOutside (wsU yX4_isOutside cX4_isOutside 3 (some .boolean)) ({ frames := 0, cells := 0, slots := 0, locals := 0 } : Room) (PU dC dI cy a [.int v0, .int v1, .int v2] M) (QUi dC dI cy a o M) 0 0 (AU a) := by
  refine mw_met (by decide) ha (Nat.le_of_ble_eq_true rfl) ?_
  intro p e s m below meth c ls X hG hl
  have hl : lv_has ls 3 [(0, .int v0), (1, .int v1), (2, .int v2)] := hl
  have X : XU dC dI cy a p s m c [.int v0, .int v1, .int v2].toArray meth cX4_isOutside 3 RX4 (some .boolean) := X
  have hx := X.1.1
  have hb := X.1.2.1
  have hown := X.1.2.2.2.1
  have hts := X.1.2.2.2.2
  rw [f_X4_isOutside] at hf
  refine lv_iload_n hx hb dX4_isOutside_0 rfl (lv_at hl 0 rfl) ?_
  refine lv_iload_n hx hb dX4_isOutside_1 rfl (lv_at hl 1 rfl) ?_
  refine lv_icmp_lt (tgt := 10) hx hb dX4_isOutside_2 (by decide) (fun c1 => ?_) (fun c1 => ?_)
  · have hf := itep c1 hf
    exact w_X4_isOutside_L10 X hf hG (lv_sub hl [] rfl)
  · have hf := iten c1 hf
    refine lv_iload_n hx hb dX4_isOutside_5 rfl (lv_at hl 0 rfl) ?_
    refine lv_iload_n hx hb dX4_isOutside_6 rfl (lv_at hl 2 rfl) ?_
    refine lv_icmp_le (tgt := 14) hx hb dX4_isOutside_7 (by decide) (fun c2 => ?_) (fun c2 => ?_)
    · have hf := itep c2 hf
      refine lv_iconst (v := 0) hx hb dX4_isOutside_14 (by decide) ?_
      exact w_X4_isOutside_L15 X hf hG (lv_sub hl [] rfl)
    · have hf := iten c2 hf
      exact w_X4_isOutside_L10 X hf hG (lv_sub hl [] rfl)
/-! X4_parts -/
set_option maxHeartbeats 4000000 in
set_option maxRecDepth 100000 in
theorem w_X4_parts_L38 {l : Launch} {dC : Nat → ClassId} {dI : Nat → Nat → Nat} {cy : Nat → ClassId} {a : Nat → Nat} {p : Program} {e : Env} {s : State} {m : MethodId} {args : Array Value} {below : List Frame} {meth : Method} {c : Code} (X : XU dC dI cy a p s m c args meth cX4_parts 4 RX4 (some .int)) {this : Nat} (hT : K4 this) {v2 : Int32} {o : (Int32 × Mem)} : ∀ (n : Nat) (M : Mem) (v3 : Int32) (H : Heap) (locs : List Loc) (ls : Array Slot), f_X4_parts_L38 this v2 n M v3 = some o → GU dC dI cy a s.heap M H locs → lv_has ls 4 [(0, .ref (a this)), (2, .int v2), (3, .int v3)] → W p l e ({ frames := 1, cells := 0, slots := 0, locals := 22 } : Room) s m args below meth c H locs 0 0 (MQ below (QUi dC dI cy a o.1 o.2) args s 0 0 (AU a)) (F0 m 38 ls []) := by
  have hx := X.1.1
  have hb := X.1.2.1
  have hown := X.1.2.2.2.1
  have hts := X.1.2.2.2.2
  intro n
  induction n with
  | zero => intro M v3 H locs ls hf; cases hf
  | succ n ih =>
    intro M v3 H locs ls hf hG hl
    rw [f_X4_parts_L38] at hf
    refine lv_iload_n hx hb dX4_parts_38 rfl (lv_at hl 2 rfl) ?_
    refine lv_iconst (v := 2) hx hb dX4_parts_39 (by decide) ?_
    refine lv_icmp_ge (tgt := 56) hx hb dX4_parts_40 (by decide) (fun c1 => ?_) (fun c1 => ?_)
    · have hf := itep c1 hf
      refine lv_iload_n hx hb dX4_parts_56 rfl (lv_at hl 1 rfl) ?_
      obtain rfl := Option.some.inj hf
      exact mw_iret X hG dX4_parts_57
    · have hf := iten c1 hf
      refine lv_aload_n hx hb dX4_parts_43 rfl (lv_at hl 0 rfl) ?_
      refine gf_X4_23 X hG hT dX4_parts_44 ?_
      refine lv_iload_n hx hb dX4_parts_47 rfl (lv_at hl 2 rfl) ?_
      refine lv_iconst (v := 0) hx hb dX4_parts_48 (by decide) ?_
      obtain ⟨hi2, hf⟩ := ck_some hf
      refine mw_zast X hG hT.2.2.2.2.2.1 (by decide) (by decide) hi2 dX4_parts_49 (fun M3 H locs eM3 hG => ?_)
      have hf := nm_of eM3 hf
      obtain ⟨x4, ex4⟩ : ∃ y : Int32, y = v3 + (1 : Int32) := ⟨_, rfl⟩
      have hf := nm_of ex4 hf
      refine lv_iinc (v := x4) (lv' := [(3, .int x4), (0, .ref (a this)), (2, .int v2)]) hx hb dX4_parts_50 hl (k := 2) rfl (by rw [ex4]; rfl) (by decide) rfl (fun ls hl => ?_)
      refine lv_goto (tgt := 38) hx hb dX4_parts_53 (by decide) ?_
      exact ih _ _ _ _ _ hf hG (lv_sub hl [1, 2, 0] rfl)
set_option maxHeartbeats 4000000 in
set_option maxRecDepth 100000 in
theorem c_X4_parts (l : Launch) (dC : Nat → ClassId) (dI : Nat → Nat → Nat) (cy : Nat → ClassId) (a : Nat → Nat) (ha : injU a) (this : Nat) (hT : K4 this) (M : Mem) (v1 : Int32) {o : (Int32 × Mem)} (hf : f_X4_parts M this v1 = some o) : Met l yX4_parts (wsU yX4_parts cX4_parts 4 (some .int)) ({ frames := 1, cells := 0, slots := 0, locals := 22 } : Room) (PU dC dI cy a [.ref (a this), .int v1] M) (QUi dC dI cy a o.1 o.2) 0 0 (AU a) := by
  refine mw_met (by decide) ha (Nat.le_of_ble_eq_true rfl) ?_
  intro p e s m below meth c ls X hG hl
  have hl : lv_has ls 4 [(0, .ref (a this)), (1, .int v1)] := hl
  have X : XU dC dI cy a p s m c [.ref (a this), .int v1].toArray meth cX4_parts 4 RX4 (some .int) := X
  have hx := X.1.1
  have hb := X.1.2.1
  have hown := X.1.2.2.2.1
  have hts := X.1.2.2.2.2
  rw [f_X4_parts] at hf
  refine lv_iload_n hx hb dX4_parts_0 rfl (lv_at hl 1 rfl) ?_
  refine lv_iconst (v := 1) hx hb dX4_parts_1 (by decide) ?_
  refine lv_bipush (v := 6) hx hb dX4_parts_2 (by decide) ?_
  obtain ⟨x1, hr2, hf⟩ := bd_some hf
  refine mw_callSi (rest := []) X hG (c_X4_isOutside l dC dI cy a X.2.2.1  M v1 (1 : Int32) (6 : Int32) hr2) (mw_cwS X 3 g_X4_38 hd_X4_isOutside ⟨rfl, rfl⟩ ⟨Nat.le_of_ble_eq_true rfl, Nat.le_of_ble_eq_true rfl⟩) rfl hl.1 rfl (Nat.le_of_ble_eq_true rfl) dX4_parts_4 (fun H locs hG => ?_)
  refine lv_if_eq (tgt := 13) hx hb dX4_parts_7 (by decide) (fun c3 => ?_) (fun c3 => ?_)
  · have hf := itep c3 hf
    refine lv_aload_n hx hb dX4_parts_13 rfl (lv_at hl 0 rfl) ?_
    refine gf_X4_10 X hG hT dX4_parts_14 ?_
    refine gf_X4_43 X hG hT.2.1 dX4_parts_17 ?_
    refine lv_topi (fun x4 ex4 => ?_)
    have hf := nm_of ex4 hf
    refine lv_istore_n (lv' := [(2, .int x4), (0, .ref (a this)), (1, .int v1)]) hx hb dX4_parts_20 rfl hl (by decide) rfl (fun ls hl => ?_)
    refine lv_aload_n hx hb dX4_parts_21 rfl (lv_at hl 1 rfl) ?_
    refine gf_X4_10 X hG hT dX4_parts_22 ?_
    refine lv_iload_n hx hb dX4_parts_25 rfl (lv_at hl 2 rfl) ?_
    obtain ⟨M5, hr7, hf⟩ := bd_some hf
    refine mw_callVv (rest := []) X hG hT.2.1.1 rfl (c_X3_beginAnew l dC dI cy a X.2.2.1 (this + 1) hT.2.1 M v1 hr7) (mw_cwV X 1 g_X4_47 hd_X3_beginAnew ⟨rfl, rfl⟩ ⟨Nat.le_of_ble_eq_true rfl, Nat.le_of_ble_eq_true rfl⟩) rfl hl.1 rfl (Nat.le_of_ble_eq_true rfl) dX4_parts_26 (fun H locs hG => ?_)
    refine lv_aload_n hx hb dX4_parts_29 rfl (lv_at hl 1 rfl) ?_
    refine gf_X4_30 X hG hT dX4_parts_30 ?_
    obtain ⟨M8, hr10, hf⟩ := bd_some hf
    refine mw_callVv (rest := []) X hG hT.2.2.2.2.2.2.1.1 rfl (c_X1_clear l dC dI cy a X.2.2.1 (this + 151) hT.2.2.2.2.2.2.1 M5  hr10) (mw_cwV X 0 g_X4_51 hd_X1_clear ⟨rfl, rfl⟩ ⟨Nat.le_of_ble_eq_true rfl, Nat.le_of_ble_eq_true rfl⟩) rfl hl.1 rfl (Nat.le_of_ble_eq_true rfl) dX4_parts_33 (fun H locs hG => ?_)
    refine lv_iconst (v := 0) hx hb dX4_parts_36 (by decide) ?_
    refine lv_istore_n (lv' := [(3, .int (0 : Int32)), (2, .int x4), (0, .ref (a this)), (1, .int v1)]) hx hb dX4_parts_37 rfl hl (by decide) rfl (fun ls hl => ?_)
    exact w_X4_parts_L38 X hT 1000 _ _ _ _ _ hf hG (lv_sub hl [2, 1, 0] rfl)
  · have hf := iten c3 hf
    refine lv_ldc (v := -1000000002) hx hb hown (hts _ wd_ct_X4_42) dX4_parts_10 ?_
    obtain rfl := Option.some.inj hf
    exact mw_iret X hG dX4_parts_12
/-! X4_isNoPart -/
set_option maxHeartbeats 4000000 in
set_option maxRecDepth 100000 in
theorem w_X4_isNoPart_L20 {l : Launch} {dC : Nat → ClassId} {dI : Nat → Nat → Nat} {cy : Nat → ClassId} {a : Nat → Nat} {p : Program} {e : Env} {s : State} {m : MethodId} {args : Array Value} {below : List Frame} {meth : Method} {c : Code} (X : XU dC dI cy a p s m c args meth cX4_isNoPart 2 RX4 (some .boolean)) {M : Mem} {this : Nat} (hT : K4 this) {s0 : Int32} {o : Int32} {H : Heap} {locs : List Loc} {ls : Array Slot} (hf : f_X4_isNoPart_L20 M this s0 = some o) (hG : GU dC dI cy a s.heap M H locs) (hl : lv_has ls 2 [(0, .ref (a this))]) : W p l e ({ frames := 0, cells := 0, slots := 0, locals := 0 } : Room) s m args below meth c H locs 0 0 (MQ below (QUi dC dI cy a o M) args s 0 0 (AU a)) (F0 m 20 ls [.int s0]) := by
  have hx := X.1.1
  have hb := X.1.2.1
  have hown := X.1.2.2.2.1
  have hts := X.1.2.2.2.2
  rw [f_X4_isNoPart_L20] at hf
  obtain ⟨hz1, hf⟩ := zk_some hf
  obtain rfl := Option.some.inj hf
  exact mw_zret X hG (zk_nar hz1) dX4_isNoPart_20
set_option maxHeartbeats 4000000 in
set_option maxRecDepth 100000 in
theorem w_X4_isNoPart_L15 {l : Launch} {dC : Nat → ClassId} {dI : Nat → Nat → Nat} {cy : Nat → ClassId} {a : Nat → Nat} {p : Program} {e : Env} {s : State} {m : MethodId} {args : Array Value} {below : List Frame} {meth : Method} {c : Code} (X : XU dC dI cy a p s m c args meth cX4_isNoPart 2 RX4 (some .boolean)) {M : Mem} {this : Nat} (hT : K4 this) {o : Int32} {H : Heap} {locs : List Loc} {ls : Array Slot} (hf : f_X4_isNoPart_L15 M this = some o) (hG : GU dC dI cy a s.heap M H locs) (hl : lv_has ls 2 [(0, .ref (a this))]) : W p l e ({ frames := 0, cells := 0, slots := 0, locals := 0 } : Room) s m args below meth c H locs 0 0 (MQ below (QUi dC dI cy a o M) args s 0 0 (AU a)) (F0 m 15 ls []) := by
  have hx := X.1.1
  have hb := X.1.2.1
  have hown := X.1.2.2.2.1
  have hts := X.1.2.2.2.2
  rw [f_X4_isNoPart_L15] at hf
  refine lv_iconst (v := 1) hx hb dX4_isNoPart_15 (by decide) ?_
  refine lv_goto (tgt := 20) hx hb dX4_isNoPart_16 (by decide) ?_
  exact w_X4_isNoPart_L20 X hT hf hG (lv_sub hl [0] rfl)
set_option maxHeartbeats 4000000 in
set_option maxRecDepth 100000 in
theorem c_X4_isNoPart (l : Launch) (dC : Nat → ClassId) (dI : Nat → Nat → Nat) (cy : Nat → ClassId) (a : Nat → Nat) (ha : injU a) (this : Nat) (hT : K4 this) (M : Mem) (v1 : Int32) {o : Int32} (hf : f_X4_isNoPart M this v1 = some o) : Met l yX4_isNoPart (wsU yX4_isNoPart cX4_isNoPart 2 (some .boolean)) ({ frames := 0, cells := 0, slots := 0, locals := 0 } : Room) (PU dC dI cy a [.ref (a this), .int v1] M) (QUi dC dI cy a o M) 0 0 (AU a) := by
  refine mw_met (by decide) ha (Nat.le_of_ble_eq_true rfl) ?_
  intro p e s m below meth c ls X hG hl
  have hl : lv_has ls 2 [(0, .ref (a this)), (1, .int v1)] := hl
  have X : XU dC dI cy a p s m c [.ref (a this), .int v1].toArray meth cX4_isNoPart 2 RX4 (some .boolean) := X
  have hx := X.1.1
  have hb := X.1.2.1
  have hown := X.1.2.2.2.1
  have hts := X.1.2.2.2.2
  rw [f_X4_isNoPart] at hf
  refine lv_iload_n hx hb dX4_isNoPart_0 rfl (lv_at hl 1 rfl) ?_
  refine lv_if_lt (tgt := 15) hx hb dX4_isNoPart_1 (by decide) (fun c1 => ?_) (fun c1 => ?_)
  · have hf := itep c1 hf
    exact w_X4_isNoPart_L15 X hT hf hG (lv_sub hl [0] rfl)
  · have hf := iten c1 hf
    refine lv_iload_n hx hb dX4_isNoPart_4 rfl (lv_at hl 1 rfl) ?_
    refine lv_aload_n hx hb dX4_isNoPart_5 rfl (lv_at hl 0 rfl) ?_
    refine gf_X4_10 X hG hT dX4_isNoPart_6 ?_
    refine gf_X4_93 X hG hT.2.1 dX4_isNoPart_9 ?_
    refine lv_icmp_lt (tgt := 19) hx hb dX4_isNoPart_12 (by decide) (fun c2 => ?_) (fun c2 => ?_)
    · have hf := itep c2 hf
      refine lv_iconst (v := 0) hx hb dX4_isNoPart_19 (by decide) ?_
      exact w_X4_isNoPart_L20 X hT hf hG (lv_sub hl [0] rfl)
    · have hf := iten c2 hf
      exact w_X4_isNoPart_L15 X hT hf hG (lv_sub hl [0] rfl)
/-! X4_areNotTwoParts -/
set_option maxHeartbeats 4000000 in
set_option maxRecDepth 100000 in
theorem w_X4_areNotTwoParts_L26 {l : Launch} {dC : Nat → ClassId} {dI : Nat → Nat → Nat} {cy : Nat → ClassId} {a : Nat → Nat} {p : Program} {e : Env} {s : State} {m : MethodId} {args : Array Value} {below : List Frame} {meth : Method} {c : Code} (X : XU dC dI cy a p s m c args meth cX4_areNotTwoParts 3 RX4 (some .boolean)) {M : Mem} {this : Nat} (hT : K4 this) {s0 : Int32} {o : Int32} {H : Heap} {locs : List Loc} {ls : Array Slot} (hf : f_X4_areNotTwoParts_L26 M this s0 = some o) (hG : GU dC dI cy a s.heap M H locs) (hl : lv_has ls 3 [(0, .ref (a this))]) : W p l e ({ frames := 1, cells := 0, slots := 0, locals := 21 } : Room) s m args below meth c H locs 0 0 (MQ below (QUi dC dI cy a o M) args s 0 0 (AU a)) (F0 m 26 ls [.int s0]) := by
  have hx := X.1.1
  have hb := X.1.2.1
  have hown := X.1.2.2.2.1
  have hts := X.1.2.2.2.2
  rw [f_X4_areNotTwoParts_L26] at hf
  obtain ⟨hz1, hf⟩ := zk_some hf
  obtain rfl := Option.some.inj hf
  exact mw_zret X hG (zk_nar hz1) dX4_areNotTwoParts_26
set_option maxHeartbeats 4000000 in
set_option maxRecDepth 100000 in
theorem w_X4_areNotTwoParts_L21 {l : Launch} {dC : Nat → ClassId} {dI : Nat → Nat → Nat} {cy : Nat → ClassId} {a : Nat → Nat} {p : Program} {e : Env} {s : State} {m : MethodId} {args : Array Value} {below : List Frame} {meth : Method} {c : Code} (X : XU dC dI cy a p s m c args meth cX4_areNotTwoParts 3 RX4 (some .boolean)) {M : Mem} {this : Nat} (hT : K4 this) {o : Int32} {H : Heap} {locs : List Loc} {ls : Array Slot} (hf : f_X4_areNotTwoParts_L21 M this = some o) (hG : GU dC dI cy a s.heap M H locs) (hl : lv_has ls 3 [(0, .ref (a this))]) : W p l e ({ frames := 1, cells := 0, slots := 0, locals := 21 } : Room) s m args below meth c H locs 0 0 (MQ below (QUi dC dI cy a o M) args s 0 0 (AU a)) (F0 m 21 ls []) := by
  have hx := X.1.1
  have hb := X.1.2.1
  have hown := X.1.2.2.2.1
  have hts := X.1.2.2.2.2
  rw [f_X4_areNotTwoParts_L21] at hf
  refine lv_iconst (v := 1) hx hb dX4_areNotTwoParts_21 (by decide) ?_
  refine lv_goto (tgt := 26) hx hb dX4_areNotTwoParts_22 (by decide) ?_
  exact w_X4_areNotTwoParts_L26 X hT hf hG (lv_sub hl [0] rfl)
set_option maxHeartbeats 4000000 in
set_option maxRecDepth 100000 in
theorem c_X4_areNotTwoParts (l : Launch) (dC : Nat → ClassId) (dI : Nat → Nat → Nat) (cy : Nat → ClassId) (a : Nat → Nat) (ha : injU a) (this : Nat) (hT : K4 this) (M : Mem) (v1 : Int32) (v2 : Int32) {o : Int32} (hf : f_X4_areNotTwoParts M this v1 v2 = some o) : Met l yX4_areNotTwoParts (wsU yX4_areNotTwoParts cX4_areNotTwoParts 3 (some .boolean)) ({ frames := 1, cells := 0, slots := 0, locals := 21 } : Room) (PU dC dI cy a [.ref (a this), .int v1, .int v2] M) (QUi dC dI cy a o M) 0 0 (AU a) := by
  refine mw_met (by decide) ha (Nat.le_of_ble_eq_true rfl) ?_
  intro p e s m below meth c ls X hG hl
  have hl : lv_has ls 3 [(0, .ref (a this)), (1, .int v1), (2, .int v2)] := hl
  have X : XU dC dI cy a p s m c [.ref (a this), .int v1, .int v2].toArray meth cX4_areNotTwoParts 3 RX4 (some .boolean) := X
  have hx := X.1.1
  have hb := X.1.2.1
  have hown := X.1.2.2.2.1
  have hts := X.1.2.2.2.2
  rw [f_X4_areNotTwoParts] at hf
  refine lv_aload_n hx hb dX4_areNotTwoParts_0 rfl (lv_at hl 0 rfl) ?_
  refine lv_iload_n hx hb dX4_areNotTwoParts_1 rfl (lv_at hl 1 rfl) ?_
  obtain ⟨x1, hr2, hf⟩ := bd_some hf
  refine mw_callVi (rest := []) X hG hT.1 rfl (c_X4_isNoPart l dC dI cy a X.2.2.1 this hT M v1 hr2) (mw_cwV X 1 g_X4_143 hd_X4_isNoPart ⟨rfl, rfl⟩ ⟨Nat.le_of_ble_eq_true rfl, Nat.le_of_ble_eq_true rfl⟩) rfl hl.1 rfl (Nat.le_of_ble_eq_true rfl) dX4_areNotTwoParts_2 (fun H locs hG => ?_)
  refine lv_if_ne (tgt := 21) hx hb dX4_areNotTwoParts_5 (by decide) (fun c3 => ?_) (fun c3 => ?_)
  · have hf := iten c3 hf
    exact w_X4_areNotTwoParts_L21 X hT hf hG (lv_sub hl [0] rfl)
  · have hf := itep c3 hf
    refine lv_aload_n hx hb dX4_areNotTwoParts_8 rfl (lv_at hl 0 rfl) ?_
    refine lv_iload_n hx hb dX4_areNotTwoParts_9 rfl (lv_at hl 2 rfl) ?_
    obtain ⟨x4, hr5, hf⟩ := bd_some hf
    refine mw_callVi (rest := []) X hG hT.1 rfl (c_X4_isNoPart l dC dI cy a X.2.2.1 this hT M v2 hr5) (mw_cwV X 1 g_X4_143 hd_X4_isNoPart ⟨rfl, rfl⟩ ⟨Nat.le_of_ble_eq_true rfl, Nat.le_of_ble_eq_true rfl⟩) rfl hl.1 rfl (Nat.le_of_ble_eq_true rfl) dX4_areNotTwoParts_10 (fun H locs hG => ?_)
    refine lv_if_ne (tgt := 21) hx hb dX4_areNotTwoParts_13 (by decide) (fun c6 => ?_) (fun c6 => ?_)
    · have hf := iten c6 hf
      exact w_X4_areNotTwoParts_L21 X hT hf hG (lv_sub hl [0] rfl)
    · have hf := itep c6 hf
      refine lv_iload_n hx hb dX4_areNotTwoParts_16 rfl (lv_at hl 1 rfl) ?_
      refine lv_iload_n hx hb dX4_areNotTwoParts_17 rfl (lv_at hl 2 rfl) ?_
      refine lv_icmp_ne (tgt := 25) hx hb dX4_areNotTwoParts_18 (by decide) (fun c7 => ?_) (fun c7 => ?_)
      · have hf := iten c7 hf
        refine lv_iconst (v := 0) hx hb dX4_areNotTwoParts_25 (by decide) ?_
        exact w_X4_areNotTwoParts_L26 X hT hf hG (lv_sub hl [0] rfl)
      · have hf := itep c7 hf
        exact w_X4_areNotTwoParts_L21 X hT hf hG (lv_sub hl [0] rfl)
/-! X4_channel -/
set_option maxHeartbeats 4000000 in
set_option maxRecDepth 100000 in
theorem w_X4_channel_L39 {l : Launch} {dC : Nat → ClassId} {dI : Nat → Nat → Nat} {cy : Nat → ClassId} {a : Nat → Nat} {p : Program} {e : Env} {s : State} {m : MethodId} {args : Array Value} {below : List Frame} {meth : Method} {c : Code} (X : XU dC dI cy a p s m c args meth cX4_channel 5 RX4 (some .int)) {M : Mem} {this : Nat} (hT : K4 this) {o : (Int32 × Mem)} {H : Heap} {locs : List Loc} {ls : Array Slot} (hf : f_X4_channel_L39 M this = some o) (hG : GU dC dI cy a s.heap M H locs) (hl : lv_has ls 5 [(0, .ref (a this))]) : W p l e ({ frames := 2, cells := 0, slots := 0, locals := 43 } : Room) s m args below meth c H locs 0 0 (MQ below (QUi dC dI cy a o.1 o.2) args s 0 0 (AU a)) (F0 m 39 ls []) := by
  have hx := X.1.1
  have hb := X.1.2.1
  have hown := X.1.2.2.2.1
  have hts := X.1.2.2.2.2
  rw [f_X4_channel_L39] at hf
  refine lv_ldc (v := -1000000002) hx hb hown (hts _ wd_ct_X4_42) dX4_channel_39 ?_
  obtain rfl := Option.some.inj hf
  exact mw_iret X hG dX4_channel_41
set_option maxHeartbeats 4000000 in
set_option maxRecDepth 100000 in
theorem w_X4_channel_L68 {l : Launch} {dC : Nat → ClassId} {dI : Nat → Nat → Nat} {cy : Nat → ClassId} {a : Nat → Nat} {p : Program} {e : Env} {s : State} {m : MethodId} {args : Array Value} {below : List Frame} {meth : Method} {c : Code} (X : XU dC dI cy a p s m c args meth cX4_channel 5 RX4 (some .int)) {M : Mem} {this : Nat} (hT : K4 this) {o : (Int32 × Mem)} {H : Heap} {locs : List Loc} {ls : Array Slot} (hf : f_X4_channel_L68 M this = some o) (hG : GU dC dI cy a s.heap M H locs) (hl : lv_has ls 5 [(0, .ref (a this))]) : W p l e ({ frames := 2, cells := 0, slots := 0, locals := 43 } : Room) s m args below meth c H locs 0 0 (MQ below (QUi dC dI cy a o.1 o.2) args s 0 0 (AU a)) (F0 m 68 ls []) := by
  have hx := X.1.1
  have hb := X.1.2.1
  have hown := X.1.2.2.2.1
  have hts := X.1.2.2.2.2
  rw [f_X4_channel_L68] at hf
  refine lv_ldc (v := -1000000003) hx hb hown (hts _ wd_ct_X4_73) dX4_channel_68 ?_
  obtain rfl := Option.some.inj hf
  exact mw_iret X hG dX4_channel_70
set_option maxHeartbeats 4000000 in
set_option maxRecDepth 100000 in
theorem c_X4_channel (l : Launch) (dC : Nat → ClassId) (dI : Nat → Nat → Nat) (cy : Nat → ClassId) (a : Nat → Nat) (ha : injU a) (this : Nat) (hT : K4 this) (M : Mem) (v1 : Int32) (v2 : Int32) (v3 : Int32) (v4 : Int32) {o : (Int32 × Mem)} (hf : f_X4_channel M this v1 v2 v3 v4 = some o) : Met l yX4_channel (wsU yX4_channel cX4_channel 5 (some .int)) ({ frames := 2, cells := 0, slots := 0, locals := 43 } : Room) (PU dC dI cy a [.ref (a this), .int v1, .int v2, .int v3, .int v4] M) (QUi dC dI cy a o.1 o.2) 0 0 (AU a) := by
  refine mw_met (by decide) ha (Nat.le_of_ble_eq_true rfl) ?_
  intro p e s m below meth c ls X hG hl
  have hl : lv_has ls 5 [(0, .ref (a this)), (1, .int v1), (2, .int v2), (3, .int v3), (4, .int v4)] := hl
  have X : XU dC dI cy a p s m c [.ref (a this), .int v1, .int v2, .int v3, .int v4].toArray meth cX4_channel 5 RX4 (some .int) := X
  have hx := X.1.1
  have hb := X.1.2.1
  have hown := X.1.2.2.2.1
  have hts := X.1.2.2.2.2
  rw [f_X4_channel] at hf
  refine lv_aload_n hx hb dX4_channel_0 rfl (lv_at hl 0 rfl) ?_
  refine lv_iload_n hx hb dX4_channel_1 rfl (lv_at hl 1 rfl) ?_
  refine lv_iload_n hx hb dX4_channel_2 rfl (lv_at hl 2 rfl) ?_
  obtain ⟨x1, hr2, hf⟩ := bd_some hf
  refine mw_callVi (rest := []) X hG hT.1 rfl (c_X4_areNotTwoParts l dC dI cy a X.2.2.1 this hT M v1 v2 hr2) (mw_cwV X 2 g_X4_54 hd_X4_areNotTwoParts ⟨rfl, rfl⟩ ⟨Nat.le_of_ble_eq_true rfl, Nat.le_of_ble_eq_true rfl⟩) rfl hl.1 rfl (Nat.le_of_ble_eq_true rfl) dX4_channel_3 (fun H locs hG => ?_)
  refine lv_if_eq (tgt := 12) hx hb dX4_channel_6 (by decide) (fun c3 => ?_) (fun c3 => ?_)
  · have hf := itep c3 hf
    refine lv_iload_n hx hb dX4_channel_12 rfl (lv_at hl 3 rfl) ?_
    refine lv_iconst (v := 0) hx hb dX4_channel_13 (by decide) ?_
    refine lv_bipush (v := 99) hx hb dX4_channel_14 (by decide) ?_
    obtain ⟨x4, hr5, hf⟩ := bd_some hf
    refine mw_callSi (rest := []) X hG (c_X4_isOutside l dC dI cy a X.2.2.1  M v3 (0 : Int32) (99 : Int32) hr5) (mw_cwS X 3 g_X4_38 hd_X4_isOutside ⟨rfl, rfl⟩ ⟨Nat.le_of_ble_eq_true rfl, Nat.le_of_ble_eq_true rfl⟩) rfl hl.1 rfl (Nat.le_of_ble_eq_true rfl) dX4_channel_16 (fun H locs hG => ?_)
    refine lv_if_ne (tgt := 39) hx hb dX4_channel_19 (by decide) (fun c6 => ?_) (fun c6 => ?_)
    · have hf := iten c6 hf
      exact w_X4_channel_L39 X hT hf hG (lv_sub hl [0] rfl)
    · have hf := itep c6 hf
      refine lv_iload hx hb dX4_channel_22 (lv_at hl 4 rfl) ?_
      refine lv_iconst (v := 1) hx hb dX4_channel_24 (by decide) ?_
      refine lv_bipush (v := 99) hx hb dX4_channel_25 (by decide) ?_
      obtain ⟨x7, hr8, hf⟩ := bd_some hf
      refine mw_callSi (rest := []) X hG (c_X4_isOutside l dC dI cy a X.2.2.1  M v4 (1 : Int32) (99 : Int32) hr8) (mw_cwS X 3 g_X4_38 hd_X4_isOutside ⟨rfl, rfl⟩ ⟨Nat.le_of_ble_eq_true rfl, Nat.le_of_ble_eq_true rfl⟩) rfl hl.1 rfl (Nat.le_of_ble_eq_true rfl) dX4_channel_27 (fun H locs hG => ?_)
      refine lv_if_ne (tgt := 39) hx hb dX4_channel_30 (by decide) (fun c9 => ?_) (fun c9 => ?_)
      · have hf := iten c9 hf
        exact w_X4_channel_L39 X hT hf hG (lv_sub hl [0] rfl)
      · have hf := itep c9 hf
        refine lv_iload hx hb dX4_channel_33 (lv_at hl 4 rfl) ?_
        refine lv_iload_n hx hb dX4_channel_35 rfl (lv_at hl 3 rfl) ?_
        refine lv_icmp_ge (tgt := 42) hx hb dX4_channel_36 (by decide) (fun c10 => ?_) (fun c10 => ?_)
        · have hf := itep c10 hf
          refine lv_aload_n hx hb dX4_channel_42 rfl (lv_at hl 0 rfl) ?_
          refine gf_X4_10 X hG hT dX4_channel_43 ?_
          refine gf_X4_59 X hG hT.2.1 dX4_channel_46 ?_
          refine lv_iload_n hx hb dX4_channel_49 rfl (lv_at hl 1 rfl) ?_
          refine lv_iload_n hx hb dX4_channel_50 rfl (lv_at hl 2 rfl) ?_
          obtain ⟨x11, hr12, hf⟩ := bd_some hf
          refine mw_callVi (rest := []) X hG hT.2.1.2.1.1 rfl (c_X0_find l dC dI cy a X.2.2.1 (this + 1 + 1) hT.2.1.2.1 M v1 v2 hr12) (mw_cwV X 2 g_X4_63 hd_X0_find ⟨rfl, rfl⟩ ⟨Nat.le_of_ble_eq_true rfl, Nat.le_of_ble_eq_true rfl⟩) rfl hl.1 rfl (Nat.le_of_ble_eq_true rfl) dX4_channel_51 (fun H locs hG => ?_)
          refine lv_iconst (v := -1) hx hb dX4_channel_54 (by decide) ?_
          refine lv_icmp_ne (tgt := 68) hx hb dX4_channel_55 (by decide) (fun c13 => ?_) (fun c13 => ?_)
          · have hf := iten c13 hf
            exact w_X4_channel_L68 X hT hf hG (lv_sub hl [0] rfl)
          · have hf := itep c13 hf
            refine lv_aload_n hx hb dX4_channel_58 rfl (lv_at hl 0 rfl) ?_
            refine gf_X4_10 X hG hT dX4_channel_59 ?_
            obtain ⟨x14, hr15, hf⟩ := bd_some hf
            refine mw_callVi (rest := []) X hG hT.2.1.1 rfl (c_X3_roundsAndLetGo l dC dI cy a X.2.2.1 (this + 1) hT.2.1 M  hr15) (mw_cwV X 0 g_X4_69 hd_X3_roundsAndLetGo ⟨rfl, rfl⟩ ⟨Nat.le_of_ble_eq_true rfl, Nat.le_of_ble_eq_true rfl⟩) rfl hl.1 rfl (Nat.le_of_ble_eq_true rfl) dX4_channel_62 (fun H locs hG => ?_)
            refine lv_if_le (tgt := 71) hx hb dX4_channel_65 (by decide) (fun c16 => ?_) (fun c16 => ?_)
            · have hf := itep c16 hf
              refine lv_aload_n hx hb dX4_channel_71 rfl (lv_at hl 0 rfl) ?_
              refine gf_X4_10 X hG hT dX4_channel_72 ?_
              refine gf_X4_59 X hG hT.2.1 dX4_channel_75 ?_
              refine gf_X4_74 X hG hT.2.1.2.1 dX4_channel_78 ?_
              refine lv_bipush (v := 12) hx hb dX4_channel_81 (by decide) ?_
              refine lv_icmp_lt (tgt := 89) hx hb dX4_channel_83 (by decide) (fun c17 => ?_) (fun c17 => ?_)
              · have hf := itep c17 hf
                refine lv_aload_n hx hb dX4_channel_89 rfl (lv_at hl 0 rfl) ?_
                refine gf_X4_10 X hG hT dX4_channel_90 ?_
                refine gf_X4_59 X hG hT.2.1 dX4_channel_93 ?_
                refine lv_iload_n hx hb dX4_channel_96 rfl (lv_at hl 1 rfl) ?_
                refine lv_iload_n hx hb dX4_channel_97 rfl (lv_at hl 2 rfl) ?_
                refine lv_iload_n hx hb dX4_channel_98 rfl (lv_at hl 3 rfl) ?_
                refine lv_iload hx hb dX4_channel_99 (lv_at hl 4 rfl) ?_
                obtain ⟨x19, M18, hr20, hf⟩ := bd2_some hf
                refine mw_callVi (rest := []) X hG hT.2.1.2.1.1 rfl (c_X0_add l dC dI cy a X.2.2.1 (this + 1 + 1) hT.2.1.2.1 M v1 v2 v3 v4 hr20) (mw_cwV X 4 g_X4_78 hd_X0_add ⟨rfl, rfl⟩ ⟨Nat.le_of_ble_eq_true rfl, Nat.le_of_ble_eq_true rfl⟩) rfl hl.1 rfl (Nat.le_of_ble_eq_true rfl) dX4_channel_101 (fun H locs hG => ?_)
                obtain rfl := Option.some.inj hf
                exact mw_iret X hG dX4_channel_104
              · have hf := iten c17 hf
                refine lv_ldc (v := -1000000004) hx hb hown (hts _ wd_ct_X4_77) dX4_channel_86 ?_
                obtain rfl := Option.some.inj hf
                exact mw_iret X hG dX4_channel_88
            · have hf := iten c16 hf
              exact w_X4_channel_L68 X hT hf hG (lv_sub hl [0] rfl)
        · have hf := iten c10 hf
          exact w_X4_channel_L39 X hT hf hG (lv_sub hl [0] rfl)
  · have hf := iten c3 hf
    refine lv_ldc (v := -1000000001) hx hb hown (hts _ wd_ct_X4_58) dX4_channel_9 ?_
    obtain rfl := Option.some.inj hf
    exact mw_iret X hG dX4_channel_11
/-! X4_refusalOfEvent -/
set_option maxHeartbeats 4000000 in
set_option maxRecDepth 100000 in
theorem w_X4_refusalOfEvent_L32 {l : Launch} {dC : Nat → ClassId} {dI : Nat → Nat → Nat} {cy : Nat → ClassId} {a : Nat → Nat} {p : Program} {e : Env} {s : State} {m : MethodId} {args : Array Value} {below : List Frame} {meth : Method} {c : Code} (X : XU dC dI cy a p s m c args meth cX4_refusalOfEvent 4 RX4 (some .int)) {M : Mem} {this : Nat} (hT : K4 this) {o : Int32} {H : Heap} {locs : List Loc} {ls : Array Slot} (hf : f_X4_refusalOfEvent_L32 M this = some o) (hG : GU dC dI cy a s.heap M H locs) (hl : lv_has ls 4 [(0, .ref (a this))]) : W p l e ({ frames := 1, cells := 0, slots := 0, locals := 23 } : Room) s m args below meth c H locs 0 0 (MQ below (QUi dC dI cy a o M) args s 0 0 (AU a)) (F0 m 32 ls []) := by
  have hx := X.1.1
  have hb := X.1.2.1
  have hown := X.1.2.2.2.1
  have hts := X.1.2.2.2.2
  rw [f_X4_refusalOfEvent_L32] at hf
  refine lv_ldc (v := -1000000002) hx hb hown (hts _ wd_ct_X4_42) dX4_refusalOfEvent_32 ?_
  obtain rfl := Option.some.inj hf
  exact mw_iret X hG dX4_refusalOfEvent_34
set_option maxHeartbeats 4000000 in
set_option maxRecDepth 100000 in
theorem w_X4_refusalOfEvent_L62 {l : Launch} {dC : Nat → ClassId} {dI : Nat → Nat → Nat} {cy : Nat → ClassId} {a : Nat → Nat} {p : Program} {e : Env} {s : State} {m : MethodId} {args : Array Value} {below : List Frame} {meth : Method} {c : Code} (X : XU dC dI cy a p s m c args meth cX4_refusalOfEvent 4 RX4 (some .int)) {M : Mem} {this : Nat} (hT : K4 this) {o : Int32} {H : Heap} {locs : List Loc} {ls : Array Slot} (hf : f_X4_refusalOfEvent_L62 M this = some o) (hG : GU dC dI cy a s.heap M H locs) (hl : lv_has ls 4 [(0, .ref (a this))]) : W p l e ({ frames := 1, cells := 0, slots := 0, locals := 23 } : Room) s m args below meth c H locs 0 0 (MQ below (QUi dC dI cy a o M) args s 0 0 (AU a)) (F0 m 62 ls []) := by
  have hx := X.1.1
  have hb := X.1.2.1
  have hown := X.1.2.2.2.1
  have hts := X.1.2.2.2.2
  rw [f_X4_refusalOfEvent_L62] at hf
  refine lv_ldc (v := -1000000003) hx hb hown (hts _ wd_ct_X4_73) dX4_refusalOfEvent_62 ?_
  obtain rfl := Option.some.inj hf
  exact mw_iret X hG dX4_refusalOfEvent_64
set_option maxHeartbeats 4000000 in
set_option maxRecDepth 100000 in
theorem w_X4_refusalOfEvent_L83 {l : Launch} {dC : Nat → ClassId} {dI : Nat → Nat → Nat} {cy : Nat → ClassId} {a : Nat → Nat} {p : Program} {e : Env} {s : State} {m : MethodId} {args : Array Value} {below : List Frame} {meth : Method} {c : Code} (X : XU dC dI cy a p s m c args meth cX4_refusalOfEvent 4 RX4 (some .int)) {M : Mem} {this : Nat} (hT : K4 this) {s0 : Int32} {o : Int32} {H : Heap} {locs : List Loc} {ls : Array Slot} (hf : f_X4_refusalOfEvent_L83 M this s0 = some o) (hG : GU dC dI cy a s.heap M H locs) (hl : lv_has ls 4 [(0, .ref (a this))]) : W p l e ({ frames := 1, cells := 0, slots := 0, locals := 23 } : Room) s m args below meth c H locs 0 0 (MQ below (QUi dC dI cy a o M) args s 0 0 (AU a)) (F0 m 83 ls [.int s0]) := by
  have hx := X.1.1
  have hb := X.1.2.1
  have hown := X.1.2.2.2.1
  have hts := X.1.2.2.2.2
  rw [f_X4_refusalOfEvent_L83] at hf
  obtain rfl := Option.some.inj hf
  exact mw_iret X hG dX4_refusalOfEvent_83
set_option maxHeartbeats 4000000 in
set_option maxRecDepth 100000 in
theorem c_X4_refusalOfEvent (l : Launch) (dC : Nat → ClassId) (dI : Nat → Nat → Nat) (cy : Nat → ClassId) (a : Nat → Nat) (ha : injU a) (this : Nat) (hT : K4 this) (M : Mem) (v1 : Int32) (v2 : Int32) (v3 : Int32) {o : Int32} (hf : f_X4_refusalOfEvent M this v1 v2 v3 = some o) : Met l yX4_refusalOfEvent (wsU yX4_refusalOfEvent cX4_refusalOfEvent 4 (some .int)) ({ frames := 1, cells := 0, slots := 0, locals := 23 } : Room) (PU dC dI cy a [.ref (a this), .int v1, .int v2, .int v3] M) (QUi dC dI cy a o M) 0 0 (AU a) := by
  refine mw_met (by decide) ha (Nat.le_of_ble_eq_true rfl) ?_
  intro p e s m below meth c ls X hG hl
  have hl : lv_has ls 4 [(0, .ref (a this)), (1, .int v1), (2, .int v2), (3, .int v3)] := hl
  have X : XU dC dI cy a p s m c [.ref (a this), .int v1, .int v2, .int v3].toArray meth cX4_refusalOfEvent 4 RX4 (some .int) := X
  have hx := X.1.1
  have hb := X.1.2.1
  have hown := X.1.2.2.2.1
  have hts := X.1.2.2.2.2
  rw [f_X4_refusalOfEvent] at hf
  refine lv_aload_n hx hb dX4_refusalOfEvent_0 rfl (lv_at hl 0 rfl) ?_
  refine lv_iload_n hx hb dX4_refusalOfEvent_1 rfl (lv_at hl 1 rfl) ?_
  obtain ⟨x1, hr2, hf⟩ := bd_some hf
  refine mw_callVi (rest := []) X hG hT.1 rfl (c_X4_isNoPart l dC dI cy a X.2.2.1 this hT M v1 hr2) (mw_cwV X 1 g_X4_143 hd_X4_isNoPart ⟨rfl, rfl⟩ ⟨Nat.le_of_ble_eq_true rfl, Nat.le_of_ble_eq_true rfl⟩) rfl hl.1 rfl (Nat.le_of_ble_eq_true rfl) dX4_refusalOfEvent_2 (fun H locs hG => ?_)
  refine lv_if_eq (tgt := 11) hx hb dX4_refusalOfEvent_5 (by decide) (fun c3 => ?_) (fun c3 => ?_)
  · have hf := itep c3 hf
    refine lv_iload_n hx hb dX4_refusalOfEvent_11 rfl (lv_at hl 2 rfl) ?_
    refine lv_iconst (v := 0) hx hb dX4_refusalOfEvent_12 (by decide) ?_
    refine lv_sipush (v := 9999) hx hb dX4_refusalOfEvent_13 (by decide) ?_
    obtain ⟨x4, hr5, hf⟩ := bd_some hf
    refine mw_callSi (rest := []) X hG (c_X4_isOutside l dC dI cy a X.2.2.1  M v2 (0 : Int32) (9999 : Int32) hr5) (mw_cwS X 3 g_X4_38 hd_X4_isOutside ⟨rfl, rfl⟩ ⟨Nat.le_of_ble_eq_true rfl, Nat.le_of_ble_eq_true rfl⟩) rfl hl.1 rfl (Nat.le_of_ble_eq_true rfl) dX4_refusalOfEvent_16 (fun H locs hG => ?_)
    refine lv_if_ne (tgt := 32) hx hb dX4_refusalOfEvent_19 (by decide) (fun c6 => ?_) (fun c6 => ?_)
    · have hf := iten c6 hf
      exact w_X4_refusalOfEvent_L32 X hT hf hG (lv_sub hl [0] rfl)
    · have hf := itep c6 hf
      refine lv_iload_n hx hb dX4_refusalOfEvent_22 rfl (lv_at hl 3 rfl) ?_
      refine lv_iconst (v := 0) hx hb dX4_refusalOfEvent_23 (by decide) ?_
      refine lv_bipush (v := 99) hx hb dX4_refusalOfEvent_24 (by decide) ?_
      obtain ⟨x7, hr8, hf⟩ := bd_some hf
      refine mw_callSi (rest := []) X hG (c_X4_isOutside l dC dI cy a X.2.2.1  M v3 (0 : Int32) (99 : Int32) hr8) (mw_cwS X 3 g_X4_38 hd_X4_isOutside ⟨rfl, rfl⟩ ⟨Nat.le_of_ble_eq_true rfl, Nat.le_of_ble_eq_true rfl⟩) rfl hl.1 rfl (Nat.le_of_ble_eq_true rfl) dX4_refusalOfEvent_26 (fun H locs hG => ?_)
      refine lv_if_eq (tgt := 35) hx hb dX4_refusalOfEvent_29 (by decide) (fun c9 => ?_) (fun c9 => ?_)
      · have hf := itep c9 hf
        refine lv_aload_n hx hb dX4_refusalOfEvent_35 rfl (lv_at hl 0 rfl) ?_
        refine gf_X4_10 X hG hT dX4_refusalOfEvent_36 ?_
        refine lv_iload_n hx hb dX4_refusalOfEvent_39 rfl (lv_at hl 1 rfl) ?_
        refine lv_iload_n hx hb dX4_refusalOfEvent_40 rfl (lv_at hl 2 rfl) ?_
        obtain ⟨x10, hr11, hf⟩ := bd_some hf
        refine mw_callVi (rest := []) X hG hT.2.1.1 rfl (c_X3_hasWorkedAtOrBehind l dC dI cy a X.2.2.1 (this + 1) hT.2.1 M v1 v2 hr11) (mw_cwV X 2 g_X4_231 hd_X3_hasWorkedAtOrBehind ⟨rfl, rfl⟩ ⟨Nat.le_of_ble_eq_true rfl, Nat.le_of_ble_eq_true rfl⟩) rfl hl.1 rfl (Nat.le_of_ble_eq_true rfl) dX4_refusalOfEvent_41 (fun H locs hG => ?_)
        refine lv_if_ne (tgt := 62) hx hb dX4_refusalOfEvent_44 (by decide) (fun c12 => ?_) (fun c12 => ?_)
        · have hf := iten c12 hf
          exact w_X4_refusalOfEvent_L62 X hT hf hG (lv_sub hl [0] rfl)
        · have hf := itep c12 hf
          refine lv_aload_n hx hb dX4_refusalOfEvent_47 rfl (lv_at hl 0 rfl) ?_
          refine gf_X4_10 X hG hT dX4_refusalOfEvent_48 ?_
          refine gf_X4_59 X hG hT.2.1 dX4_refusalOfEvent_51 ?_
          refine lv_iload_n hx hb dX4_refusalOfEvent_54 rfl (lv_at hl 1 rfl) ?_
          refine lv_iload_n hx hb dX4_refusalOfEvent_55 rfl (lv_at hl 2 rfl) ?_
          obtain ⟨x13, hr14, hf⟩ := bd_some hf
          refine mw_callVi (rest := []) X hG hT.2.1.2.1.1 rfl (c_X0_promiseMoreThan l dC dI cy a X.2.2.1 (this + 1 + 1) hT.2.1.2.1 M v1 v2 hr14) (mw_cwV X 2 g_X4_234 hd_X0_promiseMoreThan ⟨rfl, rfl⟩ ⟨Nat.le_of_ble_eq_true rfl, Nat.le_of_ble_eq_true rfl⟩) rfl hl.1 rfl (Nat.le_of_ble_eq_true rfl) dX4_refusalOfEvent_56 (fun H locs hG => ?_)
          refine lv_if_eq (tgt := 65) hx hb dX4_refusalOfEvent_59 (by decide) (fun c15 => ?_) (fun c15 => ?_)
          · have hf := itep c15 hf
            refine lv_aload_n hx hb dX4_refusalOfEvent_65 rfl (lv_at hl 0 rfl) ?_
            refine gf_X4_10 X hG hT dX4_refusalOfEvent_66 ?_
            refine gf_X4_140 X hG hT.2.1 dX4_refusalOfEvent_69 ?_
            refine lv_bipush (v := 30) hx hb dX4_refusalOfEvent_72 (by decide) ?_
            refine lv_icmp_lt (tgt := 82) hx hb dX4_refusalOfEvent_74 (by decide) (fun c16 => ?_) (fun c16 => ?_)
            · have hf := itep c16 hf
              refine lv_iconst (v := 0) hx hb dX4_refusalOfEvent_82 (by decide) ?_
              exact w_X4_refusalOfEvent_L83 X hT hf hG (lv_sub hl [0] rfl)
            · have hf := iten c16 hf
              refine lv_ldc (v := -1000000004) hx hb hown (hts _ wd_ct_X4_77) dX4_refusalOfEvent_77 ?_
              refine lv_goto (tgt := 83) hx hb dX4_refusalOfEvent_79 (by decide) ?_
              exact w_X4_refusalOfEvent_L83 X hT hf hG (lv_sub hl [0] rfl)
          · have hf := iten c15 hf
            exact w_X4_refusalOfEvent_L62 X hT hf hG (lv_sub hl [0] rfl)
      · have hf := iten c9 hf
        exact w_X4_refusalOfEvent_L32 X hT hf hG (lv_sub hl [0] rfl)
  · have hf := iten c3 hf
    refine lv_ldc (v := -1000000001) hx hb hown (hts _ wd_ct_X4_58) dX4_refusalOfEvent_8 ?_
    obtain rfl := Option.some.inj hf
    exact mw_iret X hG dX4_refusalOfEvent_10
/-! X4_event -/
set_option maxHeartbeats 4000000 in
set_option maxRecDepth 100000 in
theorem c_X4_event (l : Launch) (dC : Nat → ClassId) (dI : Nat → Nat → Nat) (cy : Nat → ClassId) (a : Nat → Nat) (ha : injU a) (this : Nat) (hT : K4 this) (M : Mem) (v1 : Int32) (v2 : Int32) (v3 : Int32) {o : (Int32 × Mem)} (hf : f_X4_event M this v1 v2 v3 = some o) : Met l yX4_event (wsU yX4_event cX4_event 5 (some .int)) ({ frames := 3, cells := 0, slots := 0, locals := 70 } : Room) (PU dC dI cy a [.ref (a this), .int v1, .int v2, .int v3] M) (QUi dC dI cy a o.1 o.2) 0 0 (AU a) := by
  refine mw_met (by decide) ha (Nat.le_of_ble_eq_true rfl) ?_
  intro p e s m below meth c ls X hG hl
  have hl : lv_has ls 5 [(0, .ref (a this)), (1, .int v1), (2, .int v2), (3, .int v3)] := hl
  have X : XU dC dI cy a p s m c [.ref (a this), .int v1, .int v2, .int v3].toArray meth cX4_event 5 RX4 (some .int) := X
  have hx := X.1.1
  have hb := X.1.2.1
  have hown := X.1.2.2.2.1
  have hts := X.1.2.2.2.2
  rw [f_X4_event] at hf
  refine lv_aload_n hx hb dX4_event_0 rfl (lv_at hl 0 rfl) ?_
  refine lv_iload_n hx hb dX4_event_1 rfl (lv_at hl 1 rfl) ?_
  refine lv_iload_n hx hb dX4_event_2 rfl (lv_at hl 2 rfl) ?_
  refine lv_iload_n hx hb dX4_event_3 rfl (lv_at hl 3 rfl) ?_
  obtain ⟨x1, hr2, hf⟩ := bd_some hf
  refine mw_callVi (rest := []) X hG hT.1 rfl (c_X4_refusalOfEvent l dC dI cy a X.2.2.1 this hT M v1 v2 v3 hr2) (mw_cwV X 3 g_X4_82 hd_X4_refusalOfEvent ⟨rfl, rfl⟩ ⟨Nat.le_of_ble_eq_true rfl, Nat.le_of_ble_eq_true rfl⟩) rfl hl.1 rfl (Nat.le_of_ble_eq_true rfl) dX4_event_4 (fun H locs hG => ?_)
  refine lv_istore (lv' := [(4, .int x1), (0, .ref (a this)), (1, .int v1), (2, .int v2), (3, .int v3)]) hx hb dX4_event_7 hl (by decide) rfl (fun ls hl => ?_)
  refine lv_iload hx hb dX4_event_9 (lv_at hl 0 rfl) ?_
  refine lv_if_eq (tgt := 17) hx hb dX4_event_11 (by decide) (fun c3 => ?_) (fun c3 => ?_)
  · have hf := itep c3 hf
    refine lv_aload_n hx hb dX4_event_17 rfl (lv_at hl 1 rfl) ?_
    refine gf_X4_10 X hG hT dX4_event_18 ?_
    refine lv_iload_n hx hb dX4_event_21 rfl (lv_at hl 2 rfl) ?_
    refine lv_iload_n hx hb dX4_event_22 rfl (lv_at hl 3 rfl) ?_
    refine lv_iload_n hx hb dX4_event_23 rfl (lv_at hl 4 rfl) ?_
    obtain ⟨x5, M4, hr6, hf⟩ := bd2_some hf
    refine mw_callVi (rest := []) X hG hT.2.1.1 rfl (c_X3_tellByHand l dC dI cy a X.2.2.1 (this + 1) hT.2.1 M v1 v2 v3 hr6) (mw_cwV X 3 g_X4_86 hd_X3_tellByHand ⟨rfl, rfl⟩ ⟨Nat.le_of_ble_eq_true rfl, Nat.le_of_ble_eq_true rfl⟩) rfl hl.1 rfl (Nat.le_of_ble_eq_true rfl) dX4_event_24 (fun H locs hG => ?_)
    obtain rfl := Option.some.inj hf
    exact mw_iret X hG dX4_event_27
  · have hf := iten c3 hf
    refine lv_iload hx hb dX4_event_14 (lv_at hl 0 rfl) ?_
    obtain rfl := Option.some.inj hf
    exact mw_iret X hG dX4_event_16
/-! X4_form -/
set_option maxHeartbeats 4000000 in
set_option maxRecDepth 100000 in
theorem c_X4_form (l : Launch) (dC : Nat → ClassId) (dI : Nat → Nat → Nat) (cy : Nat → ClassId) (a : Nat → Nat) (ha : injU a) (this : Nat) (hT : K4 this) (M : Mem) (v1 : Int32) {o : (Int32 × Mem)} (hf : f_X4_form M this v1 = some o) : Met l yX4_form (wsU yX4_form cX4_form 3 (some .int)) ({ frames := 1, cells := 0, slots := 0, locals := 22 } : Room) (PU dC dI cy a [.ref (a this), .int v1] M) (QUi dC dI cy a o.1 o.2) 0 0 (AU a) := by
  refine mw_met (by decide) ha (Nat.le_of_ble_eq_true rfl) ?_
  intro p e s m below meth c ls X hG hl
  have hl : lv_has ls 3 [(0, .ref (a this)), (1, .int v1)] := hl
  have X : XU dC dI cy a p s m c [.ref (a this), .int v1].toArray meth cX4_form 3 RX4 (some .int) := X
  have hx := X.1.1
  have hb := X.1.2.1
  have hown := X.1.2.2.2.1
  have hts := X.1.2.2.2.2
  rw [f_X4_form] at hf
  refine lv_iload_n hx hb dX4_form_0 rfl (lv_at hl 1 rfl) ?_
  refine lv_iconst (v := 0) hx hb dX4_form_1 (by decide) ?_
  refine lv_iconst (v := 2) hx hb dX4_form_2 (by decide) ?_
  obtain ⟨x1, hr2, hf⟩ := bd_some hf
  refine mw_callSi (rest := []) X hG (c_X4_isOutside l dC dI cy a X.2.2.1  M v1 (0 : Int32) (2 : Int32) hr2) (mw_cwS X 3 g_X4_38 hd_X4_isOutside ⟨rfl, rfl⟩ ⟨Nat.le_of_ble_eq_true rfl, Nat.le_of_ble_eq_true rfl⟩) rfl hl.1 rfl (Nat.le_of_ble_eq_true rfl) dX4_form_3 (fun H locs hG => ?_)
  refine lv_if_eq (tgt := 12) hx hb dX4_form_6 (by decide) (fun c3 => ?_) (fun c3 => ?_)
  · have hf := itep c3 hf
    refine lv_aload_n hx hb dX4_form_12 rfl (lv_at hl 0 rfl) ?_
    refine gf_X4_10 X hG hT dX4_form_13 ?_
    refine gf_X4_89 X hG hT.2.1 dX4_form_16 ?_
    refine lv_topi (fun x4 ex4 => ?_)
    have hf := nm_of ex4 hf
    refine lv_istore_n (lv' := [(2, .int x4), (0, .ref (a this)), (1, .int v1)]) hx hb dX4_form_19 rfl hl (by decide) rfl (fun ls hl => ?_)
    refine lv_aload_n hx hb dX4_form_20 rfl (lv_at hl 1 rfl) ?_
    refine gf_X4_10 X hG hT dX4_form_21 ?_
    refine lv_iload_n hx hb dX4_form_24 rfl (lv_at hl 2 rfl) ?_
    refine pf_X4_89 X hG hT.2.1 dX4_form_25 (fun M5 H locs eM5 hG => ?_)
    have hf := nm_of eM5 hf
    refine lv_iload_n hx hb dX4_form_28 rfl (lv_at hl 0 rfl) ?_
    obtain rfl := Option.some.inj hf
    exact mw_iret X hG dX4_form_29
  · have hf := iten c3 hf
    refine lv_ldc (v := -1000000002) hx hb hown (hts _ wd_ct_X4_42) dX4_form_9 ?_
    obtain rfl := Option.some.inj hf
    exact mw_iret X hG dX4_form_11
/-! X4_nextLot -/
set_option maxHeartbeats 4000000 in
set_option maxRecDepth 100000 in
theorem c_X4_nextLot (l : Launch) (dC : Nat → ClassId) (dI : Nat → Nat → Nat) (cy : Nat → ClassId) (a : Nat → Nat) (ha : injU a) (M : Mem) (l0 : Int64) {o : Int64} (hf : f_X4_nextLot l0 = some o) : Met l yX4_nextLot (wsU yX4_nextLot cX4_nextLot 2 (some .long)) ({ frames := 0, cells := 0, slots := 0, locals := 0 } : Room) (PU dC dI cy a [.long l0] M) (QUl dC dI cy a o M) 0 0 (AU a) := by
  refine mw_met (by decide) ha (Nat.le_of_ble_eq_true rfl) ?_
  intro p e s m below meth c ls X hG hl
  have hl : lv_has ls 2 [(0, .long l0)] := hl
  have X : XU dC dI cy a p s m c [.long l0].toArray meth cX4_nextLot 2 RX4 (some .long) := X
  have hx := X.1.1
  have hb := X.1.2.1
  have hown := X.1.2.2.2.1
  have hts := X.1.2.2.2.2
  rw [f_X4_nextLot] at hf
  refine lv_lload_n hx hb dX4_nextLot_0 rfl (lv_at hl 0 rfl) ?_
  refine lv_ldc2 (v := 16807) hx hb hown (hts _ wd_cl_X4_237) dX4_nextLot_1 ?_
  refine lv_lmul hx hb dX4_nextLot_4 ?_
  refine lv_ldc2 (v := 2147483647) hx hb hown (hts _ wd_cl_X4_239) dX4_nextLot_5 ?_
  obtain ⟨hz1, hf⟩ := nzl_some hf
  refine lv_lrem hx hb dX4_nextLot_8 hz1 ?_
  obtain rfl := Option.some.inj hf
  exact mw_lret X hG dX4_nextLot_9
/-! X4_drift -/
set_option maxHeartbeats 4000000 in
set_option maxRecDepth 100000 in
theorem w_X4_drift_L20 {l : Launch} {dC : Nat → ClassId} {dI : Nat → Nat → Nat} {cy : Nat → ClassId} {a : Nat → Nat} {p : Program} {e : Env} {s : State} {m : MethodId} {args : Array Value} {below : List Frame} {meth : Method} {c : Code} (X : XU dC dI cy a p s m c args meth cX4_drift 11 RX4 (some .int)) {M : Mem} {this : Nat} (hT : K4 this) {o : (Int32 × Mem)} {H : Heap} {locs : List Loc} {ls : Array Slot} (hf : f_X4_drift_L20 M this = some o) (hG : GU dC dI cy a s.heap M H locs) (hl : lv_has ls 11 [(0, .ref (a this))]) : W p l e ({ frames := 3, cells := 0, slots := 0, locals := 70 } : Room) s m args below meth c H locs 0 0 (MQ below (QUi dC dI cy a o.1 o.2) args s 0 0 (AU a)) (F0 m 20 ls []) := by
  have hx := X.1.1
  have hb := X.1.2.1
  have hown := X.1.2.2.2.1
  have hts := X.1.2.2.2.2
  rw [f_X4_drift_L20] at hf
  refine lv_ldc (v := -1000000002) hx hb hown (hts _ wd_ct_X4_42) dX4_drift_20 ?_
  obtain rfl := Option.some.inj hf
  exact mw_iret X hG dX4_drift_22
set_option maxHeartbeats 4000000 in
set_option maxRecDepth 100000 in
theorem w_X4_drift_L145 {l : Launch} {dC : Nat → ClassId} {dI : Nat → Nat → Nat} {cy : Nat → ClassId} {a : Nat → Nat} {p : Program} {e : Env} {s : State} {m : MethodId} {args : Array Value} {below : List Frame} {meth : Method} {c : Code} (X : XU dC dI cy a p s m c args meth cX4_drift 11 RX4 (some .int)) {M : Mem} {this : Nat} (hT : K4 this) {v1 : Int32} {v3 : Int32} {l4 : Int64} {v6 : Int32} {v7 : Int32} {o : (Int32 × Mem)} {k49 : Mem → Int64 → Int32 → Int32 → Option (Int32 × Mem)} (hk49 : ∀ (M : Mem) (l4 : Int64) (v6 : Int32) (v7 : Int32) (H : Heap) (locs : List Loc) (ls : Array Slot), k49 M l4 v6 v7 = some o → GU dC dI cy a s.heap M H locs → lv_has ls 11 [(0, .ref (a this)), (1, .int v1), (3, .int v3), (4, .long l4), (6, .int v6), (7, .int v7)] → W p l e ({ frames := 3, cells := 0, slots := 0, locals := 70 } : Room) s m args below meth c H locs 0 0 (MQ below (QUi dC dI cy a o.1 o.2) args s 0 0 (AU a)) (F0 m 49 ls [])) {H : Heap} {locs : List Loc} {ls : Array Slot} (hf : f_X4_drift_L145 k49 M this v1 v3 l4 v6 v7 = some o) (hG : GU dC dI cy a s.heap M H locs) (hl : lv_has ls 11 [(0, .ref (a this)), (1, .int v1), (3, .int v3), (4, .long l4), (6, .int v6), (7, .int v7)]) : W p l e ({ frames := 3, cells := 0, slots := 0, locals := 70 } : Room) s m args below meth c H locs 0 0 (MQ below (QUi dC dI cy a o.1 o.2) args s 0 0 (AU a)) (F0 m 145 ls []) := by
  have hx := X.1.1
  have hb := X.1.2.1
  have hown := X.1.2.2.2.1
  have hts := X.1.2.2.2.2
  rw [f_X4_drift_L145] at hf
  obtain ⟨x1, ex1⟩ : ∃ y : Int32, y = v7 + (1 : Int32) := ⟨_, rfl⟩
  have hf := nm_of ex1 hf
  refine lv_iinc (v := x1) (lv' := [(7, .int x1), (0, .ref (a this)), (1, .int v1), (3, .int v3), (4, .long l4), (6, .int v6)]) hx hb dX4_drift_145 hl (k := 5) rfl (by rw [ex1]; rfl) (by decide) rfl (fun ls hl => ?_)
  refine lv_goto (tgt := 49) hx hb dX4_drift_148 (by decide) ?_
  exact hk49 _ _ _ _ _ _ _ hf hG (lv_sub hl [1, 2, 3, 4, 5, 0] rfl)
set_option maxHeartbeats 4000000 in
set_option maxRecDepth 100000 in
theorem w_X4_drift_L49 {l : Launch} {dC : Nat → ClassId} {dI : Nat → Nat → Nat} {cy : Nat → ClassId} {a : Nat → Nat} {p : Program} {e : Env} {s : State} {m : MethodId} {args : Array Value} {below : List Frame} {meth : Method} {c : Code} (X : XU dC dI cy a p s m c args meth cX4_drift 11 RX4 (some .int)) {this : Nat} (hT : K4 this) {v1 : Int32} {v3 : Int32} {o : (Int32 × Mem)} : ∀ (n : Nat) (M : Mem) (l4 : Int64) (v6 : Int32) (v7 : Int32) (H : Heap) (locs : List Loc) (ls : Array Slot), f_X4_drift_L49 this v1 v3 n M l4 v6 v7 = some o → GU dC dI cy a s.heap M H locs → lv_has ls 11 [(0, .ref (a this)), (1, .int v1), (3, .int v3), (4, .long l4), (6, .int v6), (7, .int v7)] → W p l e ({ frames := 3, cells := 0, slots := 0, locals := 70 } : Room) s m args below meth c H locs 0 0 (MQ below (QUi dC dI cy a o.1 o.2) args s 0 0 (AU a)) (F0 m 49 ls []) := by
  have hx := X.1.1
  have hb := X.1.2.1
  have hown := X.1.2.2.2.1
  have hts := X.1.2.2.2.2
  intro n
  induction n with
  | zero => intro M l4 v6 v7 H locs ls hf; cases hf
  | succ n ih =>
    intro M l4 v6 v7 H locs ls hf hG hl
    rw [f_X4_drift_L49] at hf
    refine lv_iload hx hb dX4_drift_49 (lv_at hl 5 rfl) ?_
    refine lv_iload_n hx hb dX4_drift_51 rfl (lv_at hl 1 rfl) ?_
    refine lv_icmp_ge (tgt := 151) hx hb dX4_drift_52 (by decide) (fun c1 => ?_) (fun c1 => ?_)
    · have hf := itep c1 hf
      refine lv_iload hx hb dX4_drift_151 (lv_at hl 4 rfl) ?_
      obtain rfl := Option.some.inj hf
      exact mw_iret X hG dX4_drift_153
    · have hf := iten c1 hf
      refine lv_lload hx hb dX4_drift_55 (lv_at hl 3 rfl) ?_
      obtain ⟨x2, hr3, hf⟩ := bd_some hf
      refine mw_callSl (rest := []) X hG (c_X4_nextLot l dC dI cy a X.2.2.1  M l4 hr3) (mw_cwS X 1 g_X4_96 hd_X4_nextLot ⟨rfl, rfl⟩ ⟨Nat.le_of_ble_eq_true rfl, Nat.le_of_ble_eq_true rfl⟩) rfl hl.1 rfl (Nat.le_of_ble_eq_true rfl) dX4_drift_57 (fun H locs hG => ?_)
      refine lv_lstore (lv' := [(4, .long x2), (0, .ref (a this)), (1, .int v1), (3, .int v3), (6, .int v6), (7, .int v7)]) hx hb dX4_drift_60 hl (by decide) rfl (fun ls hl => ?_)
      refine lv_lload hx hb dX4_drift_62 (lv_at hl 0 rfl) ?_
      refine lv_iload_n hx hb dX4_drift_64 rfl (lv_at hl 3 rfl) ?_
      refine lv_i2l (v := v3.toInt64) hx hb dX4_drift_65 rfl ?_
      obtain ⟨hz4, hf⟩ := nzl_some hf
      refine lv_lrem hx hb dX4_drift_66 hz4 ?_
      refine lv_l2i (v := (jreml x2 (v3.toInt64)).toInt32) hx hb dX4_drift_67 rfl ?_
      refine lv_topi (fun x5 ex5 => ?_)
      have hf := nm_of ex5 hf
      refine lv_istore (lv' := [(8, .int x5), (4, .long x2), (0, .ref (a this)), (1, .int v1), (3, .int v3), (6, .int v6), (7, .int v7)]) hx hb dX4_drift_68 hl (by decide) rfl (fun ls hl => ?_)
      refine lv_lload hx hb dX4_drift_70 (lv_at hl 1 rfl) ?_
      obtain ⟨x6, hr7, hf⟩ := bd_some hf
      refine mw_callSl (rest := []) X hG (c_X4_nextLot l dC dI cy a X.2.2.1  M x2 hr7) (mw_cwS X 1 g_X4_96 hd_X4_nextLot ⟨rfl, rfl⟩ ⟨Nat.le_of_ble_eq_true rfl, Nat.le_of_ble_eq_true rfl⟩) rfl hl.1 rfl (Nat.le_of_ble_eq_true rfl) dX4_drift_72 (fun H locs hG => ?_)
      refine lv_lstore (lv' := [(4, .long x6), (8, .int x5), (0, .ref (a this)), (1, .int v1), (3, .int v3), (6, .int v6), (7, .int v7)]) hx hb dX4_drift_75 hl (by decide) rfl (fun ls hl => ?_)
      refine lv_aload_n hx hb dX4_drift_77 rfl (lv_at hl 2 rfl) ?_
      refine gf_X4_10 X hG hT dX4_drift_78 ?_
      refine gf_X4_100 X hG hT.2.1 dX4_drift_81 ?_
      refine lv_iload hx hb dX4_drift_84 (lv_at hl 1 rfl) ?_
      obtain ⟨hi8, hf⟩ := ck_some hf
      refine mw_iald X hG hT.2.1.2.2.2.2.2.1 hi8 dX4_drift_86 ?_
      refine lv_iconst (v := 1) hx hb dX4_drift_87 (by decide) ?_
      refine lv_iadd hx hb dX4_drift_88 ?_
      refine lv_lload hx hb dX4_drift_89 (lv_at hl 0 rfl) ?_
      refine lv_ldc2 (v := 50) hx hb hown (hts _ wd_cl_X4_103) dX4_drift_91 ?_
      obtain ⟨hz9, hf⟩ := nzl_some hf
      refine lv_lrem hx hb dX4_drift_94 hz9 ?_
      refine lv_l2i (v := (jreml x6 (50 : Int64)).toInt32) hx hb dX4_drift_95 rfl ?_
      refine lv_iadd hx hb dX4_drift_96 ?_
      refine lv_topi (fun x10 ex10 => ?_)
      have hf := nm_of ex10 hf
      refine lv_istore (lv' := [(9, .int x10), (4, .long x6), (8, .int x5), (0, .ref (a this)), (1, .int v1), (3, .int v3), (6, .int v6), (7, .int v7)]) hx hb dX4_drift_97 hl (by decide) rfl (fun ls hl => ?_)
      refine lv_lload hx hb dX4_drift_99 (lv_at hl 1 rfl) ?_
      obtain ⟨x11, hr12, hf⟩ := bd_some hf
      refine mw_callSl (rest := []) X hG (c_X4_nextLot l dC dI cy a X.2.2.1  M x6 hr12) (mw_cwS X 1 g_X4_96 hd_X4_nextLot ⟨rfl, rfl⟩ ⟨Nat.le_of_ble_eq_true rfl, Nat.le_of_ble_eq_true rfl⟩) rfl hl.1 rfl (Nat.le_of_ble_eq_true rfl) dX4_drift_101 (fun H locs hG => ?_)
      refine lv_lstore (lv' := [(4, .long x11), (9, .int x10), (8, .int x5), (0, .ref (a this)), (1, .int v1), (3, .int v3), (6, .int v6), (7, .int v7)]) hx hb dX4_drift_104 hl (by decide) rfl (fun ls hl => ?_)
      refine lv_lload hx hb dX4_drift_106 (lv_at hl 0 rfl) ?_
      refine lv_ldc2 (v := 20) hx hb hown (hts _ wd_cl_X4_105) dX4_drift_108 ?_
      obtain ⟨hz13, hf⟩ := nzl_some hf
      refine lv_lrem hx hb dX4_drift_111 hz13 ?_
      refine lv_l2i (v := (jreml x11 (20 : Int64)).toInt32) hx hb dX4_drift_112 rfl ?_
      refine lv_topi (fun x14 ex14 => ?_)
      have hf := nm_of ex14 hf
      refine lv_istore (lv' := [(10, .int x14), (4, .long x11), (9, .int x10), (8, .int x5), (0, .ref (a this)), (1, .int v1), (3, .int v3), (6, .int v6), (7, .int v7)]) hx hb dX4_drift_113 hl (by decide) rfl (fun ls hl => ?_)
      refine lv_aload_n hx hb dX4_drift_115 rfl (lv_at hl 4 rfl) ?_
      refine lv_iload hx hb dX4_drift_116 (lv_at hl 3 rfl) ?_
      refine lv_iload hx hb dX4_drift_118 (lv_at hl 2 rfl) ?_
      refine lv_iload hx hb dX4_drift_120 (lv_at hl 0 rfl) ?_
      obtain ⟨x15, hr16, hf⟩ := bd_some hf
      refine mw_callVi (rest := []) X hG hT.1 rfl (c_X4_refusalOfEvent l dC dI cy a X.2.2.1 this hT M x5 x10 x14 hr16) (mw_cwV X 3 g_X4_82 hd_X4_refusalOfEvent ⟨rfl, rfl⟩ ⟨Nat.le_of_ble_eq_true rfl, Nat.le_of_ble_eq_true rfl⟩) rfl hl.1 rfl (Nat.le_of_ble_eq_true rfl) dX4_drift_122 (fun H locs hG => ?_)
      refine lv_if_ne (tgt := 145) hx hb dX4_drift_125 (by decide) (fun c17 => ?_) (fun c17 => ?_)
      · have hf := iten c17 hf
        exact w_X4_drift_L145 X hT ih hf hG (lv_sub hl [4, 5, 6, 1, 7, 8] rfl)
      · have hf := itep c17 hf
        refine lv_aload_n hx hb dX4_drift_128 rfl (lv_at hl 4 rfl) ?_
        refine gf_X4_10 X hG hT dX4_drift_129 ?_
        refine lv_iload hx hb dX4_drift_132 (lv_at hl 3 rfl) ?_
        refine lv_iload hx hb dX4_drift_134 (lv_at hl 2 rfl) ?_
        refine lv_iload hx hb dX4_drift_136 (lv_at hl 0 rfl) ?_
        obtain ⟨x19, M18, hr20, hf⟩ := bd2_some hf
        refine mw_callVi (rest := []) X hG hT.2.1.1 rfl (c_X3_tellByHand l dC dI cy a X.2.2.1 (this + 1) hT.2.1 M x5 x10 x14 hr20) (mw_cwV X 3 g_X4_86 hd_X3_tellByHand ⟨rfl, rfl⟩ ⟨Nat.le_of_ble_eq_true rfl, Nat.le_of_ble_eq_true rfl⟩) rfl hl.1 rfl (Nat.le_of_ble_eq_true rfl) dX4_drift_138 (fun H locs hG => ?_)
        refine lv_pop hx hb dX4_drift_141 rfl ?_
        obtain ⟨x21, ex21⟩ : ∃ y : Int32, y = v6 + (1 : Int32) := ⟨_, rfl⟩
        have hf := nm_of ex21 hf
        refine lv_iinc (v := x21) (lv' := [(6, .int x21), (10, .int x14), (4, .long x11), (9, .int x10), (8, .int x5), (0, .ref (a this)), (1, .int v1), (3, .int v3), (7, .int v7)]) hx hb dX4_drift_142 hl (k := 7) rfl (by rw [ex21]; rfl) (by decide) rfl (fun ls hl => ?_)
        exact w_X4_drift_L145 X hT ih hf hG (lv_sub hl [5, 6, 7, 2, 0, 8] rfl)
set_option maxHeartbeats 4000000 in
set_option maxRecDepth 100000 in
theorem c_X4_drift (l : Launch) (dC : Nat → ClassId) (dI : Nat → Nat → Nat) (cy : Nat → ClassId) (a : Nat → Nat) (ha : injU a) (this : Nat) (hT : K4 this) (M : Mem) (v1 : Int32) (v2 : Int32) {o : (Int32 × Mem)} (hf : f_X4_drift M this v1 v2 = some o) : Met l yX4_drift (wsU yX4_drift cX4_drift 11 (some .int)) ({ frames := 3, cells := 0, slots := 0, locals := 70 } : Room) (PU dC dI cy a [.ref (a this), .int v1, .int v2] M) (QUi dC dI cy a o.1 o.2) 0 0 (AU a) := by
  refine mw_met (by decide) ha (Nat.le_of_ble_eq_true rfl) ?_
  intro p e s m below meth c ls X hG hl
  have hl : lv_has ls 11 [(0, .ref (a this)), (1, .int v1), (2, .int v2)] := hl
  have X : XU dC dI cy a p s m c [.ref (a this), .int v1, .int v2].toArray meth cX4_drift 11 RX4 (some .int) := X
  have hx := X.1.1
  have hb := X.1.2.1
  have hown := X.1.2.2.2.1
  have hts := X.1.2.2.2.2
  rw [f_X4_drift] at hf
  refine lv_iload_n hx hb dX4_drift_0 rfl (lv_at hl 1 rfl) ?_
  refine lv_iconst (v := 1) hx hb dX4_drift_1 (by decide) ?_
  refine lv_bipush (v := 20) hx hb dX4_drift_2 (by decide) ?_
  obtain ⟨x1, hr2, hf⟩ := bd_some hf
  refine mw_callSi (rest := []) X hG (c_X4_isOutside l dC dI cy a X.2.2.1  M v1 (1 : Int32) (20 : Int32) hr2) (mw_cwS X 3 g_X4_38 hd_X4_isOutside ⟨rfl, rfl⟩ ⟨Nat.le_of_ble_eq_true rfl, Nat.le_of_ble_eq_true rfl⟩) rfl hl.1 rfl (Nat.le_of_ble_eq_true rfl) dX4_drift_4 (fun H locs hG => ?_)
  refine lv_if_ne (tgt := 20) hx hb dX4_drift_7 (by decide) (fun c3 => ?_) (fun c3 => ?_)
  · have hf := iten c3 hf
    exact w_X4_drift_L20 X hT hf hG (lv_sub hl [0] rfl)
  · have hf := itep c3 hf
    refine lv_iload_n hx hb dX4_drift_10 rfl (lv_at hl 2 rfl) ?_
    refine lv_iconst (v := 1) hx hb dX4_drift_11 (by decide) ?_
    refine lv_ldc (v := 999999) hx hb hown (hts _ wd_ct_X4_92) dX4_drift_12 ?_
    obtain ⟨x4, hr5, hf⟩ := bd_some hf
    refine mw_callSi (rest := []) X hG (c_X4_isOutside l dC dI cy a X.2.2.1  M v2 (1 : Int32) (999999 : Int32) hr5) (mw_cwS X 3 g_X4_38 hd_X4_isOutside ⟨rfl, rfl⟩ ⟨Nat.le_of_ble_eq_true rfl, Nat.le_of_ble_eq_true rfl⟩) rfl hl.1 rfl (Nat.le_of_ble_eq_true rfl) dX4_drift_14 (fun H locs hG => ?_)
    refine lv_if_eq (tgt := 23) hx hb dX4_drift_17 (by decide) (fun c6 => ?_) (fun c6 => ?_)
    · have hf := itep c6 hf
      refine lv_aload_n hx hb dX4_drift_23 rfl (lv_at hl 0 rfl) ?_
      refine gf_X4_10 X hG hT dX4_drift_24 ?_
      refine gf_X4_93 X hG hT.2.1 dX4_drift_27 ?_
      refine lv_topi (fun x7 ex7 => ?_)
      have hf := nm_of ex7 hf
      refine lv_istore_n (lv' := [(3, .int x7), (0, .ref (a this)), (1, .int v1), (2, .int v2)]) hx hb dX4_drift_30 rfl hl (by decide) rfl (fun ls hl => ?_)
      refine lv_iload_n hx hb dX4_drift_31 rfl (lv_at hl 0 rfl) ?_
      refine lv_iconst (v := 1) hx hb dX4_drift_32 (by decide) ?_
      refine lv_icmp_ge (tgt := 39) hx hb dX4_drift_33 (by decide) (fun c8 => ?_) (fun c8 => ?_)
      · have hf := itep c8 hf
        refine lv_iload_n hx hb dX4_drift_39 rfl (lv_at hl 3 rfl) ?_
        refine lv_i2l (v := v2.toInt64) hx hb dX4_drift_40 rfl ?_
        refine lv_topl (fun x9 ex9 => ?_)
        have hf := nm_of ex9 hf
        refine lv_lstore (lv' := [(4, .long x9), (3, .int x7), (0, .ref (a this)), (1, .int v1), (2, .int v2)]) hx hb dX4_drift_41 hl (by decide) rfl (fun ls hl => ?_)
        refine lv_iconst (v := 0) hx hb dX4_drift_43 (by decide) ?_
        refine lv_istore (lv' := [(6, .int (0 : Int32)), (4, .long x9), (3, .int x7), (0, .ref (a this)), (1, .int v1), (2, .int v2)]) hx hb dX4_drift_44 hl (by decide) rfl (fun ls hl => ?_)
        refine lv_iconst (v := 0) hx hb dX4_drift_46 (by decide) ?_
        refine lv_istore (lv' := [(7, .int (0 : Int32)), (6, .int (0 : Int32)), (4, .long x9), (3, .int x7), (0, .ref (a this)), (1, .int v1), (2, .int v2)]) hx hb dX4_drift_47 hl (by decide) rfl (fun ls hl => ?_)
        exact w_X4_drift_L49 X hT 1000 _ _ _ _ _ _ _ hf hG (lv_sub hl [4, 5, 3, 2, 1, 0] rfl)
      · have hf := iten c8 hf
        refine lv_ldc (v := -1000000003) hx hb hown (hts _ wd_ct_X4_73) dX4_drift_36 ?_
        obtain rfl := Option.some.inj hf
        exact mw_iret X hG dX4_drift_38
    · have hf := iten c6 hf
      exact w_X4_drift_L20 X hT hf hG (lv_sub hl [0] rfl)
/-! X4_nothingIsRun -/
set_option maxHeartbeats 4000000 in
set_option maxRecDepth 100000 in
theorem w_X4_nothingIsRun_L48 {l : Launch} {dC : Nat → ClassId} {dI : Nat → Nat → Nat} {cy : Nat → ClassId} {a : Nat → Nat} {p : Program} {e : Env} {s : State} {m : MethodId} {args : Array Value} {below : List Frame} {meth : Method} {c : Code} (X : XU dC dI cy a p s m c args meth cX4_nothingIsRun 1 RX4 (some .boolean)) {M : Mem} {this : Nat} (hT : K4 this) {s0 : Int32} {o : Int32} {H : Heap} {locs : List Loc} {ls : Array Slot} (hf : f_X4_nothingIsRun_L48 M this s0 = some o) (hG : GU dC dI cy a s.heap M H locs) (hl : lv_has ls 1 [(0, .ref (a this))]) : W p l e ({ frames := 2, cells := 0, slots := 0, locals := 48 } : Room) s m args below meth c H locs 0 0 (MQ below (QUi dC dI cy a o M) args s 0 0 (AU a)) (F0 m 48 ls [.int s0]) := by
  have hx := X.1.1
  have hb := X.1.2.1
  have hown := X.1.2.2.2.1
  have hts := X.1.2.2.2.2
  rw [f_X4_nothingIsRun_L48] at hf
  obtain ⟨hz1, hf⟩ := zk_some hf
  obtain rfl := Option.some.inj hf
  exact mw_zret X hG (zk_nar hz1) dX4_nothingIsRun_48
set_option maxHeartbeats 4000000 in
set_option maxRecDepth 100000 in
theorem w_X4_nothingIsRun_L47 {l : Launch} {dC : Nat → ClassId} {dI : Nat → Nat → Nat} {cy : Nat → ClassId} {a : Nat → Nat} {p : Program} {e : Env} {s : State} {m : MethodId} {args : Array Value} {below : List Frame} {meth : Method} {c : Code} (X : XU dC dI cy a p s m c args meth cX4_nothingIsRun 1 RX4 (some .boolean)) {M : Mem} {this : Nat} (hT : K4 this) {o : Int32} {H : Heap} {locs : List Loc} {ls : Array Slot} (hf : f_X4_nothingIsRun_L47 M this = some o) (hG : GU dC dI cy a s.heap M H locs) (hl : lv_has ls 1 [(0, .ref (a this))]) : W p l e ({ frames := 2, cells := 0, slots := 0, locals := 48 } : Room) s m args below meth c H locs 0 0 (MQ below (QUi dC dI cy a o M) args s 0 0 (AU a)) (F0 m 47 ls []) := by
  have hx := X.1.1
  have hb := X.1.2.1
  have hown := X.1.2.2.2.1
  have hts := X.1.2.2.2.2
  rw [f_X4_nothingIsRun_L47] at hf
  refine lv_iconst (v := 0) hx hb dX4_nothingIsRun_47 (by decide) ?_
  exact w_X4_nothingIsRun_L48 X hT hf hG (lv_sub hl [0] rfl)
set_option maxHeartbeats 4000000 in
set_option maxRecDepth 100000 in
theorem c_X4_nothingIsRun (l : Launch) (dC : Nat → ClassId) (dI : Nat → Nat → Nat) (cy : Nat → ClassId) (a : Nat → Nat) (ha : injU a) (this : Nat) (hT : K4 this) (M : Mem) {o : Int32} (hf : f_X4_nothingIsRun M this = some o) : Met l yX4_nothingIsRun (wsU yX4_nothingIsRun cX4_nothingIsRun 1 (some .boolean)) ({ frames := 2, cells := 0, slots := 0, locals := 48 } : Room) (PU dC dI cy a [.ref (a this)] M) (QUi dC dI cy a o M) 0 0 (AU a) := by
  refine mw_met (by decide) ha (Nat.le_of_ble_eq_true rfl) ?_
  intro p e s m below meth c ls X hG hl
  have hl : lv_has ls 1 [(0, .ref (a this))] := hl
  have X : XU dC dI cy a p s m c [.ref (a this)].toArray meth cX4_nothingIsRun 1 RX4 (some .boolean) := X
  have hx := X.1.1
  have hb := X.1.2.1
  have hown := X.1.2.2.2.1
  have hts := X.1.2.2.2.2
  rw [f_X4_nothingIsRun] at hf
  refine lv_aload_n hx hb dX4_nothingIsRun_0 rfl (lv_at hl 0 rfl) ?_
  refine gf_X4_10 X hG hT dX4_nothingIsRun_1 ?_
  refine gf_X4_93 X hG hT.2.1 dX4_nothingIsRun_4 ?_
  refine lv_if_ne (tgt := 12) hx hb dX4_nothingIsRun_7 (by decide) (fun c1 => ?_) (fun c1 => ?_)
  · have hf := iten c1 hf
    refine lv_aload_n hx hb dX4_nothingIsRun_12 rfl (lv_at hl 0 rfl) ?_
    refine gf_X4_10 X hG hT dX4_nothingIsRun_13 ?_
    refine gf_X4_89 X hG hT.2.1 dX4_nothingIsRun_16 ?_
    refine lv_iconst (v := 1) hx hb dX4_nothingIsRun_19 (by decide) ?_
    refine lv_icmp_eq (tgt := 47) hx hb dX4_nothingIsRun_20 (by decide) (fun c2 => ?_) (fun c2 => ?_)
    · have hf := itep c2 hf
      exact w_X4_nothingIsRun_L47 X hT hf hG (lv_sub hl [0] rfl)
    · have hf := iten c2 hf
      refine lv_aload_n hx hb dX4_nothingIsRun_23 rfl (lv_at hl 0 rfl) ?_
      refine gf_X4_10 X hG hT dX4_nothingIsRun_24 ?_
      refine gf_X4_59 X hG hT.2.1 dX4_nothingIsRun_27 ?_
      refine lv_aload_n hx hb dX4_nothingIsRun_30 rfl (lv_at hl 0 rfl) ?_
      refine gf_X4_10 X hG hT dX4_nothingIsRun_31 ?_
      refine gf_X4_93 X hG hT.2.1 dX4_nothingIsRun_34 ?_
      obtain ⟨x3, hr4, hf⟩ := bd_some hf
      refine mw_callVi (rest := []) X hG hT.2.1.2.1.1 rfl (c_X0_hasRingWithoutPromise l dC dI cy a X.2.2.1 (this + 1 + 1) hT.2.1.2.1 M (rd M (this + 1) 5) hr4) (mw_cwV X 1 g_X4_136 hd_X0_hasRingWithoutPromise ⟨rfl, rfl⟩ ⟨Nat.le_of_ble_eq_true rfl, Nat.le_of_ble_eq_true rfl⟩) rfl hl.1 rfl (Nat.le_of_ble_eq_true rfl) dX4_nothingIsRun_37 (fun H locs hG => ?_)
      refine lv_if_eq (tgt := 47) hx hb dX4_nothingIsRun_40 (by decide) (fun c5 => ?_) (fun c5 => ?_)
      · have hf := itep c5 hf
        exact w_X4_nothingIsRun_L47 X hT hf hG (lv_sub hl [0] rfl)
      · have hf := iten c5 hf
        refine lv_iconst (v := 1) hx hb dX4_nothingIsRun_43 (by decide) ?_
        refine lv_goto (tgt := 48) hx hb dX4_nothingIsRun_44 (by decide) ?_
        exact w_X4_nothingIsRun_L48 X hT hf hG (lv_sub hl [0] rfl)
  · have hf := itep c1 hf
    refine lv_iconst (v := 1) hx hb dX4_nothingIsRun_10 (by decide) ?_
    obtain rfl := Option.some.inj hf
    exact mw_zret X hG (by decide) dX4_nothingIsRun_11
/-! X4_workAndWriteDown -/
set_option maxHeartbeats 4000000 in
set_option maxRecDepth 100000 in
theorem c_X4_workAndWriteDown (l : Launch) (dC : Nat → ClassId) (dI : Nat → Nat → Nat) (cy : Nat → ClassId) (a : Nat → Nat) (ha : injU a) (this : Nat) (hT : K4 this) (M : Mem) (v1 : Int32) {o : Mem} (hf : f_X4_workAndWriteDown M this v1 = some o) : Met l yX4_workAndWriteDown (wsU yX4_workAndWriteDown cX4_workAndWriteDown 3 none) ({ frames := 4, cells := 0, slots := 0, locals := 97 } : Room) (PU dC dI cy a [.ref (a this), .int v1] M) (QUv dC dI cy a o) 0 0 (AU a) := by
  refine mw_met (by decide) ha (Nat.le_of_ble_eq_true rfl) ?_
  intro p e s m below meth c ls X hG hl
  have hl : lv_has ls 3 [(0, .ref (a this)), (1, .int v1)] := hl
  have X : XU dC dI cy a p s m c [.ref (a this), .int v1].toArray meth cX4_workAndWriteDown 3 RX4 none := X
  have hx := X.1.1
  have hb := X.1.2.1
  have hown := X.1.2.2.2.1
  have hts := X.1.2.2.2.2
  rw [f_X4_workAndWriteDown] at hf
  refine lv_aload_n hx hb dX4_workAndWriteDown_0 rfl (lv_at hl 0 rfl) ?_
  refine gf_X4_10 X hG hT dX4_workAndWriteDown_1 ?_
  refine gf_X4_156 X hG hT.2.1 dX4_workAndWriteDown_4 ?_
  refine lv_iload_n hx hb dX4_workAndWriteDown_7 rfl (lv_at hl 1 rfl) ?_
  obtain ⟨hi1, hf⟩ := ck_some hf
  refine mw_aald0 X hG hT.2.1.2.2.1 hi1 dX4_workAndWriteDown_8 ?_
  refine lv_astore_n (lv' := [(2, .ref (a (this + 1 + 9 + 4 + 4 * v1.toNatClampNeg))), (0, .ref (a this)), (1, .int v1)]) hx hb dX4_workAndWriteDown_9 rfl hl (by decide) rfl (fun ls hl => ?_)
  refine lv_aload_n hx hb dX4_workAndWriteDown_10 rfl (lv_at hl 1 rfl) ?_
  refine gf_X4_30 X hG hT dX4_workAndWriteDown_11 ?_
  refine lv_iload_n hx hb dX4_workAndWriteDown_14 rfl (lv_at hl 2 rfl) ?_
  refine lv_aload_n hx hb dX4_workAndWriteDown_15 rfl (lv_at hl 0 rfl) ?_
  obtain ⟨x2, hr3, hf⟩ := bd_some hf
  refine mw_callVi (rest := [.int v1, .ref (a (this + 151))]) X hG (hT.2.1.2.2.2.2.2.2 _ (vin_lt hi1)).1 rfl (c_X2_firstTime l dC dI cy a X.2.2.1 (this + 1 + 9 + 4 + 4 * v1.toNatClampNeg) (hT.2.1.2.2.2.2.2.2 _ (vin_lt hi1)) M  hr3) (mw_cwV X 0 g_X4_163 hd_X2_firstTime ⟨rfl, rfl⟩ ⟨Nat.le_of_ble_eq_true rfl, Nat.le_of_ble_eq_true rfl⟩) rfl hl.1 rfl (Nat.le_of_ble_eq_true rfl) dX4_workAndWriteDown_16 (fun H locs hG => ?_)
  refine lv_aload_n hx hb dX4_workAndWriteDown_19 rfl (lv_at hl 0 rfl) ?_
  obtain ⟨x4, hr5, hf⟩ := bd_some hf
  refine mw_callVi (rest := [.int x2, .int v1, .ref (a (this + 151))]) X hG (hT.2.1.2.2.2.2.2.2 _ (vin_lt hi1)).1 rfl (c_X2_firstValue l dC dI cy a X.2.2.1 (this + 1 + 9 + 4 + 4 * v1.toNatClampNeg) (hT.2.1.2.2.2.2.2.2 _ (vin_lt hi1)) M  hr5) (mw_cwV X 0 g_X4_166 hd_X2_firstValue ⟨rfl, rfl⟩ ⟨Nat.le_of_ble_eq_true rfl, Nat.le_of_ble_eq_true rfl⟩) rfl hl.1 rfl (Nat.le_of_ble_eq_true rfl) dX4_workAndWriteDown_20 (fun H locs hG => ?_)
  refine lv_aload_n hx hb dX4_workAndWriteDown_23 rfl (lv_at hl 1 rfl) ?_
  refine gf_X4_10 X hG hT dX4_workAndWriteDown_24 ?_
  obtain ⟨x6, hr7, hf⟩ := bd_some hf
  refine mw_callVi (rest := [.int x4, .int x2, .int v1, .ref (a (this + 151))]) X hG hT.2.1.1 rfl (c_X3_roundsAndLetGo l dC dI cy a X.2.2.1 (this + 1) hT.2.1 M  hr7) (mw_cwV X 0 g_X4_69 hd_X3_roundsAndLetGo ⟨rfl, rfl⟩ ⟨Nat.le_of_ble_eq_true rfl, Nat.le_of_ble_eq_true rfl⟩) rfl hl.1 rfl (Nat.le_of_ble_eq_true rfl) dX4_workAndWriteDown_27 (fun H locs hG => ?_)
  obtain ⟨M8, hr10, hf⟩ := bd_some hf
  refine mw_callVv (rest := []) X hG hT.2.2.2.2.2.2.1.1 rfl (c_X1_add l dC dI cy a X.2.2.1 (this + 151) hT.2.2.2.2.2.2.1 M v1 x2 x4 x6 hr10) (mw_cwV X 4 g_X4_250 hd_X1_add ⟨rfl, rfl⟩ ⟨Nat.le_of_ble_eq_true rfl, Nat.le_of_ble_eq_true rfl⟩) rfl hl.1 rfl (Nat.le_of_ble_eq_true rfl) dX4_workAndWriteDown_30 (fun H locs hG => ?_)
  refine lv_aload_n hx hb dX4_workAndWriteDown_33 rfl (lv_at hl 1 rfl) ?_
  refine gf_X4_10 X hG hT dX4_workAndWriteDown_34 ?_
  refine lv_iload_n hx hb dX4_workAndWriteDown_37 rfl (lv_at hl 2 rfl) ?_
  obtain ⟨M11, hr13, hf⟩ := bd_some hf
  refine mw_callVv (rest := []) X hG hT.2.1.1 rfl (c_X3_workOnFirst l dC dI cy a X.2.2.1 (this + 1) hT.2.1 M8 v1 hr13) (mw_cwV X 1 g_X4_225 hd_X3_workOnFirst ⟨rfl, rfl⟩ ⟨Nat.le_of_ble_eq_true rfl, Nat.le_of_ble_eq_true rfl⟩) rfl hl.1 rfl (Nat.le_of_ble_eq_true rfl) dX4_workAndWriteDown_38 (fun H locs hG => ?_)
  obtain rfl := Option.some.inj hf
  exact mw_vret X hG dX4_workAndWriteDown_41
/-! X4_isStillAfterRound -/
set_option maxHeartbeats 4000000 in
set_option maxRecDepth 100000 in
theorem w_X4_isStillAfterRound_L45 {l : Launch} {dC : Nat → ClassId} {dI : Nat → Nat → Nat} {cy : Nat → ClassId} {a : Nat → Nat} {p : Program} {e : Env} {s : State} {m : MethodId} {args : Array Value} {below : List Frame} {meth : Method} {c : Code} (X : XU dC dI cy a p s m c args meth cX4_isStillAfterRound 4 RX4 (some .boolean)) {M : Mem} {this : Nat} (hT : K4 this) {v1 : Int32} {v2 : Int32} {v3 : Int32} {o : (Int32 × Mem)} {k18 : Mem → Int32 → Option (Int32 × Mem)} (hk18 : ∀ (M : Mem) (v3 : Int32) (H : Heap) (locs : List Loc) (ls : Array Slot), k18 M v3 = some o → GU dC dI cy a s.heap M H locs → lv_has ls 4 [(0, .ref (a this)), (1, .int v1), (2, .int v2), (3, .int v3)] → W p l e ({ frames := 5, cells := 0, slots := 0, locals := 119 } : Room) s m args below meth c H locs 0 0 (MQ below (QUi dC dI cy a o.1 o.2) args s 0 0 (AU a)) (F0 m 18 ls [])) {H : Heap} {locs : List Loc} {ls : Array Slot} (hf : f_X4_isStillAfterRound_L45 k18 M this v1 v2 v3 = some o) (hG : GU dC dI cy a s.heap M H locs) (hl : lv_has ls 4 [(0, .ref (a this)), (1, .int v1), (2, .int v2), (3, .int v3)]) : W p l e ({ frames := 5, cells := 0, slots := 0, locals := 119 } : Room) s m args below meth c H locs 0 0 (MQ below (QUi dC dI cy a o.1 o.2) args s 0 0 (AU a)) (F0 m 45 ls []) := by
  have hx := X.1.1
  have hb := X.1.2.1
  have hown := X.1.2.2.2.1
  have hts := X.1.2.2.2.2
  rw [f_X4_isStillAfterRound_L45] at hf
  obtain ⟨x1, ex1⟩ : ∃ y : Int32, y = v3 + (1 : Int32) := ⟨_, rfl⟩
  have hf := nm_of ex1 hf
  refine lv_iinc (v := x1) (lv' := [(3, .int x1), (0, .ref (a this)), (1, .int v1), (2, .int v2)]) hx hb dX4_isStillAfterRound_45 hl (k := 3) rfl (by rw [ex1]; rfl) (by decide) rfl (fun ls hl => ?_)
  refine lv_goto (tgt := 18) hx hb dX4_isStillAfterRound_48 (by decide) ?_
  exact hk18 _ _ _ _ _ hf hG (lv_sub hl [1, 2, 3, 0] rfl)
set_option maxHeartbeats 4000000 in
set_option maxRecDepth 100000 in
theorem w_X4_isStillAfterRound_L139 {l : Launch} {dC : Nat → ClassId} {dI : Nat → Nat → Nat} {cy : Nat → ClassId} {a : Nat → Nat} {p : Program} {e : Env} {s : State} {m : MethodId} {args : Array Value} {below : List Frame} {meth : Method} {c : Code} (X : XU dC dI cy a p s m c args meth cX4_isStillAfterRound 4 RX4 (some .boolean)) {M : Mem} {this : Nat} (hT : K4 this) {s0 : Int32} {o : (Int32 × Mem)} {H : Heap} {locs : List Loc} {ls : Array Slot} (hf : f_X4_isStillAfterRound_L139 M this s0 = some o) (hG : GU dC dI cy a s.heap M H locs) (hl : lv_has ls 4 [(0, .ref (a this))]) : W p l e ({ frames := 5, cells := 0, slots := 0, locals := 119 } : Room) s m args below meth c H locs 0 0 (MQ below (QUi dC dI cy a o.1 o.2) args s 0 0 (AU a)) (F0 m 139 ls [.int s0]) := by
  have hx := X.1.1
  have hb := X.1.2.1
  have hown := X.1.2.2.2.1
  have hts := X.1.2.2.2.2
  rw [f_X4_isStillAfterRound_L139] at hf
  obtain ⟨hz1, hf⟩ := zk_some hf
  obtain rfl := Option.some.inj hf
  exact mw_zret X hG (zk_nar hz1) dX4_isStillAfterRound_139
set_option maxHeartbeats 4000000 in
set_option maxRecDepth 100000 in
theorem w_X4_isStillAfterRound_L138 {l : Launch} {dC : Nat → ClassId} {dI : Nat → Nat → Nat} {cy : Nat → ClassId} {a : Nat → Nat} {p : Program} {e : Env} {s : State} {m : MethodId} {args : Array Value} {below : List Frame} {meth : Method} {c : Code} (X : XU dC dI cy a p s m c args meth cX4_isStillAfterRound 4 RX4 (some .boolean)) {M : Mem} {this : Nat} (hT : K4 this) {o : (Int32 × Mem)} {H : Heap} {locs : List Loc} {ls : Array Slot} (hf : f_X4_isStillAfterRound_L138 M this = some o) (hG : GU dC dI cy a s.heap M H locs) (hl : lv_has ls 4 [(0, .ref (a this))]) : W p l e ({ frames := 5, cells := 0, slots := 0, locals := 119 } : Room) s m args below meth c H locs 0 0 (MQ below (QUi dC dI cy a o.1 o.2) args s 0 0 (AU a)) (F0 m 138 ls []) := by
  have hx := X.1.1
  have hb := X.1.2.1
  have hown := X.1.2.2.2.1
  have hts := X.1.2.2.2.2
  rw [f_X4_isStillAfterRound_L138] at hf
  refine lv_iconst (v := 0) hx hb dX4_isStillAfterRound_138 (by decide) ?_
  exact w_X4_isStillAfterRound_L139 X hT hf hG (lv_sub hl [0] rfl)
set_option maxHeartbeats 4000000 in
set_option maxRecDepth 100000 in
theorem w_X4_isStillAfterRound_L89 {l : Launch} {dC : Nat → ClassId} {dI : Nat → Nat → Nat} {cy : Nat → ClassId} {a : Nat → Nat} {p : Program} {e : Env} {s : State} {m : MethodId} {args : Array Value} {below : List Frame} {meth : Method} {c : Code} (X : XU dC dI cy a p s m c args meth cX4_isStillAfterRound 4 RX4 (some .boolean)) {M : Mem} {this : Nat} (hT : K4 this) {v1 : Int32} {v2 : Int32} {o : (Int32 × Mem)} {H : Heap} {locs : List Loc} {ls : Array Slot} (hf : f_X4_isStillAfterRound_L89 M this v1 v2 = some o) (hG : GU dC dI cy a s.heap M H locs) (hl : lv_has ls 4 [(0, .ref (a this)), (1, .int v1), (2, .int v2)]) : W p l e ({ frames := 5, cells := 0, slots := 0, locals := 119 } : Room) s m args below meth c H locs 0 0 (MQ below (QUi dC dI cy a o.1 o.2) args s 0 0 (AU a)) (F0 m 89 ls []) := by
  have hx := X.1.1
  have hb := X.1.2.1
  have hown := X.1.2.2.2.1
  have hts := X.1.2.2.2.2
  rw [f_X4_isStillAfterRound_L89] at hf
  refine lv_aload_n hx hb dX4_isStillAfterRound_89 rfl (lv_at hl 0 rfl) ?_
  refine gf_X4_10 X hG hT dX4_isStillAfterRound_90 ?_
  refine lv_dup hx hb dX4_isStillAfterRound_93 rfl ?_
  refine gf_X4_126 X hG hT.2.1 dX4_isStillAfterRound_94 ?_
  refine lv_iconst (v := 1) hx hb dX4_isStillAfterRound_97 (by decide) ?_
  refine lv_iadd hx hb dX4_isStillAfterRound_98 ?_
  refine pf_X4_126 X hG hT.2.1 dX4_isStillAfterRound_99 (fun M1 H locs eM1 hG => ?_)
  have hf := nm_of eM1 hf
  refine lv_aload_n hx hb dX4_isStillAfterRound_102 rfl (lv_at hl 0 rfl) ?_
  refine gf_X4_10 X hG hT dX4_isStillAfterRound_103 ?_
  refine gf_X4_43 X hG hT.2.1 dX4_isStillAfterRound_106 ?_
  refine lv_iload_n hx hb dX4_isStillAfterRound_109 rfl (lv_at hl 1 rfl) ?_
  refine lv_icmp_ne (tgt := 138) hx hb dX4_isStillAfterRound_110 (by decide) (fun c2 => ?_) (fun c2 => ?_)
  · have hf := iten c2 hf
    exact w_X4_isStillAfterRound_L138 X hT hf hG (lv_sub hl [0] rfl)
  · have hf := itep c2 hf
    refine lv_aload_n hx hb dX4_isStillAfterRound_113 rfl (lv_at hl 0 rfl) ?_
    refine gf_X4_10 X hG hT dX4_isStillAfterRound_114 ?_
    refine gf_X4_123 X hG hT.2.1 dX4_isStillAfterRound_117 ?_
    refine lv_iload_n hx hb dX4_isStillAfterRound_120 rfl (lv_at hl 2 rfl) ?_
    refine lv_icmp_ne (tgt := 138) hx hb dX4_isStillAfterRound_121 (by decide) (fun c3 => ?_) (fun c3 => ?_)
    · have hf := iten c3 hf
      exact w_X4_isStillAfterRound_L138 X hT hf hG (lv_sub hl [0] rfl)
    · have hf := itep c3 hf
      refine lv_aload_n hx hb dX4_isStillAfterRound_124 rfl (lv_at hl 0 rfl) ?_
      refine gf_X4_10 X hG hT dX4_isStillAfterRound_125 ?_
      obtain ⟨x4, hr5, hf⟩ := bd_some hf
      refine mw_callVi (rest := []) X hG hT.2.1.1 rfl (c_X3_eventsThatWait l dC dI cy a X.2.2.1 (this + 1) hT.2.1 M1  hr5) (mw_cwV X 0 g_X4_111 hd_X3_eventsThatWait ⟨rfl, rfl⟩ ⟨Nat.le_of_ble_eq_true rfl, Nat.le_of_ble_eq_true rfl⟩) rfl hl.1 rfl (Nat.le_of_ble_eq_true rfl) dX4_isStillAfterRound_128 (fun H locs hG => ?_)
      refine lv_if_le (tgt := 138) hx hb dX4_isStillAfterRound_131 (by decide) (fun c6 => ?_) (fun c6 => ?_)
      · have hf := itep c6 hf
        exact w_X4_isStillAfterRound_L138 X hT hf hG (lv_sub hl [0] rfl)
      · have hf := iten c6 hf
        refine lv_iconst (v := 1) hx hb dX4_isStillAfterRound_134 (by decide) ?_
        refine lv_goto (tgt := 139) hx hb dX4_isStillAfterRound_135 (by decide) ?_
        exact w_X4_isStillAfterRound_L139 X hT hf hG (lv_sub hl [0] rfl)
set_option maxHeartbeats 4000000 in
set_option maxRecDepth 100000 in
theorem w_X4_isStillAfterRound_L64 {l : Launch} {dC : Nat → ClassId} {dI : Nat → Nat → Nat} {cy : Nat → ClassId} {a : Nat → Nat} {p : Program} {e : Env} {s : State} {m : MethodId} {args : Array Value} {below : List Frame} {meth : Method} {c : Code} (X : XU dC dI cy a p s m c args meth cX4_isStillAfterRound 4 RX4 (some .boolean)) {this : Nat} (hT : K4 this) {v1 : Int32} {v2 : Int32} {o : (Int32 × Mem)} : ∀ (n : Nat) (M : Mem) (v3 : Int32) (H : Heap) (locs : List Loc) (ls : Array Slot), f_X4_isStillAfterRound_L64 this v1 v2 n M v3 = some o → GU dC dI cy a s.heap M H locs → lv_has ls 4 [(0, .ref (a this)), (1, .int v1), (2, .int v2), (3, .int v3)] → W p l e ({ frames := 5, cells := 0, slots := 0, locals := 119 } : Room) s m args below meth c H locs 0 0 (MQ below (QUi dC dI cy a o.1 o.2) args s 0 0 (AU a)) (F0 m 64 ls []) := by
  have hx := X.1.1
  have hb := X.1.2.1
  have hown := X.1.2.2.2.1
  have hts := X.1.2.2.2.2
  intro n
  induction n with
  | zero => intro M v3 H locs ls hf; cases hf
  | succ n ih =>
    intro M v3 H locs ls hf hG hl
    rw [f_X4_isStillAfterRound_L64] at hf
    refine lv_iload_n hx hb dX4_isStillAfterRound_64 rfl (lv_at hl 3 rfl) ?_
    refine lv_aload_n hx hb dX4_isStillAfterRound_65 rfl (lv_at hl 0 rfl) ?_
    refine gf_X4_10 X hG hT dX4_isStillAfterRound_66 ?_
    refine gf_X4_93 X hG hT.2.1 dX4_isStillAfterRound_69 ?_
    refine lv_icmp_ge (tgt := 89) hx hb dX4_isStillAfterRound_72 (by decide) (fun c1 => ?_) (fun c1 => ?_)
    · have hf := itep c1 hf
      exact w_X4_isStillAfterRound_L89 X hT hf hG (lv_sub hl [0, 1, 2] rfl)
    · have hf := iten c1 hf
      refine lv_aload_n hx hb dX4_isStillAfterRound_75 rfl (lv_at hl 0 rfl) ?_
      refine gf_X4_10 X hG hT dX4_isStillAfterRound_76 ?_
      refine lv_iload_n hx hb dX4_isStillAfterRound_79 rfl (lv_at hl 3 rfl) ?_
      obtain ⟨M2, hr4, hf⟩ := bd_some hf
      refine mw_callVv (rest := []) X hG hT.2.1.1 rfl (c_X3_sendEmptyLetters l dC dI cy a X.2.2.1 (this + 1) hT.2.1 M v3 hr4) (mw_cwV X 1 g_X4_244 hd_X3_sendEmptyLetters ⟨rfl, rfl⟩ ⟨Nat.le_of_ble_eq_true rfl, Nat.le_of_ble_eq_true rfl⟩) rfl hl.1 rfl (Nat.le_of_ble_eq_true rfl) dX4_isStillAfterRound_80 (fun H locs hG => ?_)
      obtain ⟨x5, ex5⟩ : ∃ y : Int32, y = v3 + (1 : Int32) := ⟨_, rfl⟩
      have hf := nm_of ex5 hf
      refine lv_iinc (v := x5) (lv' := [(3, .int x5), (0, .ref (a this)), (1, .int v1), (2, .int v2)]) hx hb dX4_isStillAfterRound_83 hl (k := 3) rfl (by rw [ex5]; rfl) (by decide) rfl (fun ls hl => ?_)
      refine lv_goto (tgt := 64) hx hb dX4_isStillAfterRound_86 (by decide) ?_
      exact ih _ _ _ _ _ hf hG (lv_sub hl [1, 2, 3, 0] rfl)
set_option maxHeartbeats 4000000 in
set_option maxRecDepth 100000 in
theorem w_X4_isStillAfterRound_L51 {l : Launch} {dC : Nat → ClassId} {dI : Nat → Nat → Nat} {cy : Nat → ClassId} {a : Nat → Nat} {p : Program} {e : Env} {s : State} {m : MethodId} {args : Array Value} {below : List Frame} {meth : Method} {c : Code} (X : XU dC dI cy a p s m c args meth cX4_isStillAfterRound 4 RX4 (some .boolean)) {M : Mem} {this : Nat} (hT : K4 this) {v1 : Int32} {v2 : Int32} {o : (Int32 × Mem)} {H : Heap} {locs : List Loc} {ls : Array Slot} (hf : f_X4_isStillAfterRound_L51 M this v1 v2 = some o) (hG : GU dC dI cy a s.heap M H locs) (hl : lv_has ls 4 [(0, .ref (a this)), (1, .int v1), (2, .int v2)]) : W p l e ({ frames := 5, cells := 0, slots := 0, locals := 119 } : Room) s m args below meth c H locs 0 0 (MQ below (QUi dC dI cy a o.1 o.2) args s 0 0 (AU a)) (F0 m 51 ls []) := by
  have hx := X.1.1
  have hb := X.1.2.1
  have hown := X.1.2.2.2.1
  have hts := X.1.2.2.2.2
  rw [f_X4_isStillAfterRound_L51] at hf
  refine lv_aload_n hx hb dX4_isStillAfterRound_51 rfl (lv_at hl 0 rfl) ?_
  refine gf_X4_10 X hG hT dX4_isStillAfterRound_52 ?_
  refine gf_X4_89 X hG hT.2.1 dX4_isStillAfterRound_55 ?_
  refine lv_iconst (v := 1) hx hb dX4_isStillAfterRound_58 (by decide) ?_
  refine lv_icmp_eq (tgt := 89) hx hb dX4_isStillAfterRound_59 (by decide) (fun c1 => ?_) (fun c1 => ?_)
  · have hf := itep c1 hf
    exact w_X4_isStillAfterRound_L89 X hT hf hG (lv_sub hl [0, 1, 2] rfl)
  · have hf := iten c1 hf
    refine lv_iconst (v := 0) hx hb dX4_isStillAfterRound_62 (by decide) ?_
    refine lv_istore_n (lv' := [(3, .int (0 : Int32)), (0, .ref (a this)), (1, .int v1), (2, .int v2)]) hx hb dX4_isStillAfterRound_63 rfl hl (by decide) rfl (fun ls hl => ?_)
    exact w_X4_isStillAfterRound_L64 X hT 1000 _ _ _ _ _ hf hG (lv_sub hl [1, 2, 3, 0] rfl)
set_option maxHeartbeats 4000000 in
set_option maxRecDepth 100000 in
theorem w_X4_isStillAfterRound_L18 {l : Launch} {dC : Nat → ClassId} {dI : Nat → Nat → Nat} {cy : Nat → ClassId} {a : Nat → Nat} {p : Program} {e : Env} {s : State} {m : MethodId} {args : Array Value} {below : List Frame} {meth : Method} {c : Code} (X : XU dC dI cy a p s m c args meth cX4_isStillAfterRound 4 RX4 (some .boolean)) {this : Nat} (hT : K4 this) {v1 : Int32} {v2 : Int32} {o : (Int32 × Mem)} : ∀ (n : Nat) (M : Mem) (v3 : Int32) (H : Heap) (locs : List Loc) (ls : Array Slot), f_X4_isStillAfterRound_L18 this v1 v2 n M v3 = some o → GU dC dI cy a s.heap M H locs → lv_has ls 4 [(0, .ref (a this)), (1, .int v1), (2, .int v2), (3, .int v3)] → W p l e ({ frames := 5, cells := 0, slots := 0, locals := 119 } : Room) s m args below meth c H locs 0 0 (MQ below (QUi dC dI cy a o.1 o.2) args s 0 0 (AU a)) (F0 m 18 ls []) := by
  have hx := X.1.1
  have hb := X.1.2.1
  have hown := X.1.2.2.2.1
  have hts := X.1.2.2.2.2
  intro n
  induction n with
  | zero => intro M v3 H locs ls hf; cases hf
  | succ n ih =>
    intro M v3 H locs ls hf hG hl
    rw [f_X4_isStillAfterRound_L18] at hf
    refine lv_iload_n hx hb dX4_isStillAfterRound_18 rfl (lv_at hl 3 rfl) ?_
    refine lv_aload_n hx hb dX4_isStillAfterRound_19 rfl (lv_at hl 0 rfl) ?_
    refine gf_X4_10 X hG hT dX4_isStillAfterRound_20 ?_
    refine gf_X4_93 X hG hT.2.1 dX4_isStillAfterRound_23 ?_
    refine lv_icmp_ge (tgt := 51) hx hb dX4_isStillAfterRound_26 (by decide) (fun c1 => ?_) (fun c1 => ?_)
    · have hf := itep c1 hf
      exact w_X4_isStillAfterRound_L51 X hT hf hG (lv_sub hl [0, 1, 2] rfl)
    · have hf := iten c1 hf
      refine lv_aload_n hx hb dX4_isStillAfterRound_29 rfl (lv_at hl 0 rfl) ?_
      refine gf_X4_10 X hG hT dX4_isStillAfterRound_30 ?_
      refine lv_iload_n hx hb dX4_isStillAfterRound_33 rfl (lv_at hl 3 rfl) ?_
      obtain ⟨x2, hr3, hf⟩ := bd_some hf
      refine mw_callVi (rest := []) X hG hT.2.1.1 rfl (c_X3_mayWork l dC dI cy a X.2.2.1 (this + 1) hT.2.1 M v3 hr3) (mw_cwV X 1 g_X4_169 hd_X3_mayWork ⟨rfl, rfl⟩ ⟨Nat.le_of_ble_eq_true rfl, Nat.le_of_ble_eq_true rfl⟩) rfl hl.1 rfl (Nat.le_of_ble_eq_true rfl) dX4_isStillAfterRound_34 (fun H locs hG => ?_)
      refine lv_if_eq (tgt := 45) hx hb dX4_isStillAfterRound_37 (by decide) (fun c4 => ?_) (fun c4 => ?_)
      · have hf := itep c4 hf
        exact w_X4_isStillAfterRound_L45 X hT ih hf hG (lv_sub hl [0, 1, 2, 3] rfl)
      · have hf := iten c4 hf
        refine lv_aload_n hx hb dX4_isStillAfterRound_40 rfl (lv_at hl 0 rfl) ?_
        refine lv_iload_n hx hb dX4_isStillAfterRound_41 rfl (lv_at hl 3 rfl) ?_
        obtain ⟨M5, hr7, hf⟩ := bd_some hf
        refine mw_callVv (rest := []) X hG hT.1 rfl (c_X4_workAndWriteDown l dC dI cy a X.2.2.1 this hT M v3 hr7) (mw_cwV X 1 g_X4_241 hd_X4_workAndWriteDown ⟨rfl, rfl⟩ ⟨Nat.le_of_ble_eq_true rfl, Nat.le_of_ble_eq_true rfl⟩) rfl hl.1 rfl (Nat.le_of_ble_eq_true rfl) dX4_isStillAfterRound_42 (fun H locs hG => ?_)
        exact w_X4_isStillAfterRound_L45 X hT ih hf hG (lv_sub hl [0, 1, 2, 3] rfl)
set_option maxHeartbeats 4000000 in
set_option maxRecDepth 100000 in
theorem c_X4_isStillAfterRound (l : Launch) (dC : Nat → ClassId) (dI : Nat → Nat → Nat) (cy : Nat → ClassId) (a : Nat → Nat) (ha : injU a) (this : Nat) (hT : K4 this) (M : Mem) {o : (Int32 × Mem)} (hf : f_X4_isStillAfterRound M this = some o) : Met l yX4_isStillAfterRound (wsU yX4_isStillAfterRound cX4_isStillAfterRound 4 (some .boolean)) ({ frames := 5, cells := 0, slots := 0, locals := 119 } : Room) (PU dC dI cy a [.ref (a this)] M) (QUi dC dI cy a o.1 o.2) 0 0 (AU a) := by
  refine mw_met (by decide) ha (Nat.le_of_ble_eq_true rfl) ?_
  intro p e s m below meth c ls X hG hl
  have hl : lv_has ls 4 [(0, .ref (a this))] := hl
  have X : XU dC dI cy a p s m c [.ref (a this)].toArray meth cX4_isStillAfterRound 4 RX4 (some .boolean) := X
  have hx := X.1.1
  have hb := X.1.2.1
  have hown := X.1.2.2.2.1
  have hts := X.1.2.2.2.2
  rw [f_X4_isStillAfterRound] at hf
  refine lv_aload_n hx hb dX4_isStillAfterRound_0 rfl (lv_at hl 0 rfl) ?_
  refine gf_X4_10 X hG hT dX4_isStillAfterRound_1 ?_
  refine gf_X4_43 X hG hT.2.1 dX4_isStillAfterRound_4 ?_
  refine lv_topi (fun x1 ex1 => ?_)
  have hf := nm_of ex1 hf
  refine lv_istore_n (lv' := [(1, .int x1), (0, .ref (a this))]) hx hb dX4_isStillAfterRound_7 rfl hl (by decide) rfl (fun ls hl => ?_)
  refine lv_aload_n hx hb dX4_isStillAfterRound_8 rfl (lv_at hl 1 rfl) ?_
  refine gf_X4_10 X hG hT dX4_isStillAfterRound_9 ?_
  refine gf_X4_123 X hG hT.2.1 dX4_isStillAfterRound_12 ?_
  refine lv_topi (fun x2 ex2 => ?_)
  have hf := nm_of ex2 hf
  refine lv_istore_n (lv' := [(2, .int x2), (1, .int x1), (0, .ref (a this))]) hx hb dX4_isStillAfterRound_15 rfl hl (by decide) rfl (fun ls hl => ?_)
  refine lv_iconst (v := 0) hx hb dX4_isStillAfterRound_16 (by decide) ?_
  refine lv_istore_n (lv' := [(3, .int (0 : Int32)), (2, .int x2), (1, .int x1), (0, .ref (a this))]) hx hb dX4_isStillAfterRound_17 rfl hl (by decide) rfl (fun ls hl => ?_)
  exact w_X4_isStillAfterRound_L18 X hT 1000 _ _ _ _ _ hf hG (lv_sub hl [3, 2, 1, 0] rfl)
/-! X4_run -/
set_option maxHeartbeats 4000000 in
set_option maxRecDepth 100000 in
theorem w_X4_run_L67 {l : Launch} {dC : Nat → ClassId} {dI : Nat → Nat → Nat} {cy : Nat → ClassId} {a : Nat → Nat} {p : Program} {e : Env} {s : State} {m : MethodId} {args : Array Value} {below : List Frame} {meth : Method} {c : Code} (X : XU dC dI cy a p s m c args meth cX4_run 5 RX4 (some .int)) {M : Mem} {this : Nat} (hT : K4 this) {v2 : Int32} {o : (Int32 × Mem)} {H : Heap} {locs : List Loc} {ls : Array Slot} (hf : f_X4_run_L67 M this v2 = some o) (hG : GU dC dI cy a s.heap M H locs) (hl : lv_has ls 5 [(0, .ref (a this)), (2, .int v2)]) : W p l e ({ frames := 6, cells := 0, slots := 0, locals := 142 } : Room) s m args below meth c H locs 0 0 (MQ below (QUi dC dI cy a o.1 o.2) args s 0 0 (AU a)) (F0 m 67 ls []) := by
  have hx := X.1.1
  have hb := X.1.2.1
  have hown := X.1.2.2.2.1
  have hts := X.1.2.2.2.2
  rw [f_X4_run_L67] at hf
  refine lv_aload_n hx hb dX4_run_67 rfl (lv_at hl 0 rfl) ?_
  refine gf_X4_10 X hG hT dX4_run_68 ?_
  refine gf_X4_43 X hG hT.2.1 dX4_run_71 ?_
  refine lv_iload_n hx hb dX4_run_74 rfl (lv_at hl 1 rfl) ?_
  refine lv_isub hx hb dX4_run_75 ?_
  obtain rfl := Option.some.inj hf
  exact mw_iret X hG dX4_run_76
set_option maxHeartbeats 4000000 in
set_option maxRecDepth 100000 in
theorem w_X4_run_L36 {l : Launch} {dC : Nat → ClassId} {dI : Nat → Nat → Nat} {cy : Nat → ClassId} {a : Nat → Nat} {p : Program} {e : Env} {s : State} {m : MethodId} {args : Array Value} {below : List Frame} {meth : Method} {c : Code} (X : XU dC dI cy a p s m c args meth cX4_run 5 RX4 (some .int)) {this : Nat} (hT : K4 this) {v1 : Int32} {v2 : Int32} {o : (Int32 × Mem)} : ∀ (n : Nat) (M : Mem) (v3 : Int32) (v4 : Int32) (H : Heap) (locs : List Loc) (ls : Array Slot), f_X4_run_L36 this v1 v2 n M v3 v4 = some o → GU dC dI cy a s.heap M H locs → lv_has ls 5 [(0, .ref (a this)), (1, .int v1), (2, .int v2), (3, .int v3), (4, .int v4)] → W p l e ({ frames := 6, cells := 0, slots := 0, locals := 142 } : Room) s m args below meth c H locs 0 0 (MQ below (QUi dC dI cy a o.1 o.2) args s 0 0 (AU a)) (F0 m 36 ls []) := by
  have hx := X.1.1
  have hb := X.1.2.1
  have hown := X.1.2.2.2.1
  have hts := X.1.2.2.2.2
  intro n
  induction n with
  | zero => intro M v3 v4 H locs ls hf; cases hf
  | succ n ih =>
    intro M v3 v4 H locs ls hf hG hl
    rw [f_X4_run_L36] at hf
    refine lv_iload hx hb dX4_run_36 (lv_at hl 4 rfl) ?_
    refine lv_iload_n hx hb dX4_run_38 rfl (lv_at hl 1 rfl) ?_
    refine lv_icmp_ge (tgt := 67) hx hb dX4_run_39 (by decide) (fun c1 => ?_) (fun c1 => ?_)
    · have hf := itep c1 hf
      exact w_X4_run_L67 X hT hf hG (lv_sub hl [0, 2] rfl)
    · have hf := iten c1 hf
      refine lv_iload_n hx hb dX4_run_42 rfl (lv_at hl 3 rfl) ?_
      refine lv_if_ne (tgt := 67) hx hb dX4_run_43 (by decide) (fun c2 => ?_) (fun c2 => ?_)
      · have hf := iten c2 hf
        exact w_X4_run_L67 X hT hf hG (lv_sub hl [0, 2] rfl)
      · have hf := itep c2 hf
        refine lv_aload_n hx hb dX4_run_46 rfl (lv_at hl 0 rfl) ?_
        refine gf_X4_10 X hG hT dX4_run_47 ?_
        obtain ⟨x3, hr4, hf⟩ := bd_some hf
        refine mw_callVi (rest := []) X hG hT.2.1.1 rfl (c_X3_eventsThatWait l dC dI cy a X.2.2.1 (this + 1) hT.2.1 M  hr4) (mw_cwV X 0 g_X4_111 hd_X3_eventsThatWait ⟨rfl, rfl⟩ ⟨Nat.le_of_ble_eq_true rfl, Nat.le_of_ble_eq_true rfl⟩) rfl hl.1 rfl (Nat.le_of_ble_eq_true rfl) dX4_run_50 (fun H locs hG => ?_)
        refine lv_if_le (tgt := 67) hx hb dX4_run_53 (by decide) (fun c5 => ?_) (fun c5 => ?_)
        · have hf := itep c5 hf
          exact w_X4_run_L67 X hT hf hG (lv_sub hl [0, 2] rfl)
        · have hf := iten c5 hf
          refine lv_aload_n hx hb dX4_run_56 rfl (lv_at hl 0 rfl) ?_
          obtain ⟨x7, M6, hr8, hf⟩ := bd2_some hf
          refine mw_callVi (rest := []) X hG hT.1 rfl (c_X4_isStillAfterRound l dC dI cy a X.2.2.1 this hT M  hr8) (mw_cwV X 0 g_X4_114 hd_X4_isStillAfterRound ⟨rfl, rfl⟩ ⟨Nat.le_of_ble_eq_true rfl, Nat.le_of_ble_eq_true rfl⟩) rfl hl.1 rfl (Nat.le_of_ble_eq_true rfl) dX4_run_57 (fun H locs hG => ?_)
          refine lv_istore_n (lv' := [(3, .int x7), (0, .ref (a this)), (1, .int v1), (2, .int v2), (4, .int v4)]) hx hb dX4_run_60 rfl hl (by decide) rfl (fun ls hl => ?_)
          obtain ⟨x9, ex9⟩ : ∃ y : Int32, y = v4 + (1 : Int32) := ⟨_, rfl⟩
          have hf := nm_of ex9 hf
          refine lv_iinc (v := x9) (lv' := [(4, .int x9), (3, .int x7), (0, .ref (a this)), (1, .int v1), (2, .int v2)]) hx hb dX4_run_61 hl (k := 4) rfl (by rw [ex9]; rfl) (by decide) rfl (fun ls hl => ?_)
          refine lv_goto (tgt := 36) hx hb dX4_run_64 (by decide) ?_
          exact ih _ _ _ _ _ _ hf hG (lv_sub hl [2, 3, 4, 1, 0] rfl)
set_option maxHeartbeats 4000000 in
set_option maxRecDepth 100000 in
theorem c_X4_run (l : Launch) (dC : Nat → ClassId) (dI : Nat → Nat → Nat) (cy : Nat → ClassId) (a : Nat → Nat) (ha : injU a) (this : Nat) (hT : K4 this) (M : Mem) (v1 : Int32) {o : (Int32 × Mem)} (hf : f_X4_run M this v1 = some o) : Met l yX4_run (wsU yX4_run cX4_run 5 (some .int)) ({ frames := 6, cells := 0, slots := 0, locals := 142 } : Room) (PU dC dI cy a [.ref (a this), .int v1] M) (QUi dC dI cy a o.1 o.2) 0 0 (AU a) := by
  refine mw_met (by decide) ha (Nat.le_of_ble_eq_true rfl) ?_
  intro p e s m below meth c ls X hG hl
  have hl : lv_has ls 5 [(0, .ref (a this)), (1, .int v1)] := hl
  have X : XU dC dI cy a p s m c [.ref (a this), .int v1].toArray meth cX4_run 5 RX4 (some .int) := X
  have hx := X.1.1
  have hb := X.1.2.1
  have hown := X.1.2.2.2.1
  have hts := X.1.2.2.2.2
  rw [f_X4_run] at hf
  refine lv_iload_n hx hb dX4_run_0 rfl (lv_at hl 1 rfl) ?_
  refine lv_iconst (v := 1) hx hb dX4_run_1 (by decide) ?_
  refine lv_bipush (v := 40) hx hb dX4_run_2 (by decide) ?_
  obtain ⟨x1, hr2, hf⟩ := bd_some hf
  refine mw_callSi (rest := []) X hG (c_X4_isOutside l dC dI cy a X.2.2.1  M v1 (1 : Int32) (40 : Int32) hr2) (mw_cwS X 3 g_X4_38 hd_X4_isOutside ⟨rfl, rfl⟩ ⟨Nat.le_of_ble_eq_true rfl, Nat.le_of_ble_eq_true rfl⟩) rfl hl.1 rfl (Nat.le_of_ble_eq_true rfl) dX4_run_4 (fun H locs hG => ?_)
  refine lv_if_eq (tgt := 13) hx hb dX4_run_7 (by decide) (fun c3 => ?_) (fun c3 => ?_)
  · have hf := itep c3 hf
    refine lv_aload_n hx hb dX4_run_13 rfl (lv_at hl 0 rfl) ?_
    obtain ⟨x4, hr5, hf⟩ := bd_some hf
    refine mw_callVi (rest := []) X hG hT.1 rfl (c_X4_nothingIsRun l dC dI cy a X.2.2.1 this hT M  hr5) (mw_cwV X 0 g_X4_107 hd_X4_nothingIsRun ⟨rfl, rfl⟩ ⟨Nat.le_of_ble_eq_true rfl, Nat.le_of_ble_eq_true rfl⟩) rfl hl.1 rfl (Nat.le_of_ble_eq_true rfl) dX4_run_14 (fun H locs hG => ?_)
    refine lv_if_eq (tgt := 23) hx hb dX4_run_17 (by decide) (fun c6 => ?_) (fun c6 => ?_)
    · have hf := itep c6 hf
      refine lv_aload_n hx hb dX4_run_23 rfl (lv_at hl 0 rfl) ?_
      refine gf_X4_10 X hG hT dX4_run_24 ?_
      refine gf_X4_43 X hG hT.2.1 dX4_run_27 ?_
      refine lv_topi (fun x7 ex7 => ?_)
      have hf := nm_of ex7 hf
      refine lv_istore_n (lv' := [(2, .int x7), (0, .ref (a this)), (1, .int v1)]) hx hb dX4_run_30 rfl hl (by decide) rfl (fun ls hl => ?_)
      refine lv_iconst (v := 0) hx hb dX4_run_31 (by decide) ?_
      refine lv_istore_n (lv' := [(3, .int (0 : Int32)), (2, .int x7), (0, .ref (a this)), (1, .int v1)]) hx hb dX4_run_32 rfl hl (by decide) rfl (fun ls hl => ?_)
      refine lv_iconst (v := 0) hx hb dX4_run_33 (by decide) ?_
      refine lv_istore (lv' := [(4, .int (0 : Int32)), (3, .int (0 : Int32)), (2, .int x7), (0, .ref (a this)), (1, .int v1)]) hx hb dX4_run_34 hl (by decide) rfl (fun ls hl => ?_)
      exact w_X4_run_L36 X hT 1000 _ _ _ _ _ _ hf hG (lv_sub hl [3, 4, 2, 1, 0] rfl)
    · have hf := iten c6 hf
      refine lv_ldc (v := -1000000003) hx hb hown (hts _ wd_ct_X4_73) dX4_run_20 ?_
      obtain rfl := Option.some.inj hf
      exact mw_iret X hG dX4_run_22
  · have hf := iten c3 hf
    refine lv_ldc (v := -1000000002) hx hb hown (hts _ wd_ct_X4_42) dX4_run_10 ?_
    obtain rfl := Option.some.inj hf
    exact mw_iret X hG dX4_run_12
/-! X4_letEarliestGo -/
set_option maxHeartbeats 4000000 in
set_option maxRecDepth 100000 in
theorem w_X4_letEarliestGo_L56 {l : Launch} {dC : Nat → ClassId} {dI : Nat → Nat → Nat} {cy : Nat → ClassId} {a : Nat → Nat} {p : Program} {e : Env} {s : State} {m : MethodId} {args : Array Value} {below : List Frame} {meth : Method} {c : Code} (X : XU dC dI cy a p s m c args meth cX4_letEarliestGo 4 RX4 (some .int)) {M : Mem} {this : Nat} (hT : K4 this) {v1 : Int32} {v2 : Int32} {o : (Int32 × Mem)} {k10 : Mem → Int32 → Option (Int32 × Mem)} (hk10 : ∀ (M : Mem) (v2 : Int32) (H : Heap) (locs : List Loc) (ls : Array Slot), k10 M v2 = some o → GU dC dI cy a s.heap M H locs → lv_has ls 4 [(0, .ref (a this)), (1, .int v1), (2, .int v2)] → W p l e ({ frames := 5, cells := 0, slots := 0, locals := 119 } : Room) s m args below meth c H locs 0 0 (MQ below (QUi dC dI cy a o.1 o.2) args s 0 0 (AU a)) (F0 m 10 ls [])) {H : Heap} {locs : List Loc} {ls : Array Slot} (hf : f_X4_letEarliestGo_L56 k10 M this v1 v2 = some o) (hG : GU dC dI cy a s.heap M H locs) (hl : lv_has ls 4 [(0, .ref (a this)), (1, .int v1), (2, .int v2)]) : W p l e ({ frames := 5, cells := 0, slots := 0, locals := 119 } : Room) s m args below meth c H locs 0 0 (MQ below (QUi dC dI cy a o.1 o.2) args s 0 0 (AU a)) (F0 m 56 ls []) := by
  have hx := X.1.1
  have hb := X.1.2.1
  have hown := X.1.2.2.2.1
  have hts := X.1.2.2.2.2
  rw [f_X4_letEarliestGo_L56] at hf
  obtain ⟨x1, ex1⟩ : ∃ y : Int32, y = v2 + (1 : Int32) := ⟨_, rfl⟩
  have hf := nm_of ex1 hf
  refine lv_iinc (v := x1) (lv' := [(2, .int x1), (0, .ref (a this)), (1, .int v1)]) hx hb dX4_letEarliestGo_56 hl (k := 2) rfl (by rw [ex1]; rfl) (by decide) rfl (fun ls hl => ?_)
  refine lv_goto (tgt := 10) hx hb dX4_letEarliestGo_59 (by decide) ?_
  exact hk10 _ _ _ _ _ hf hG (lv_sub hl [1, 2, 0] rfl)
set_option maxHeartbeats 4000000 in
set_option maxRecDepth 100000 in
theorem w_X4_letEarliestGo_L23 {l : Launch} {dC : Nat → ClassId} {dI : Nat → Nat → Nat} {cy : Nat → ClassId} {a : Nat → Nat} {p : Program} {e : Env} {s : State} {m : MethodId} {args : Array Value} {below : List Frame} {meth : Method} {c : Code} (X : XU dC dI cy a p s m c args meth cX4_letEarliestGo 4 RX4 (some .int)) {this : Nat} (hT : K4 this) {v1 : Int32} {v2 : Int32} {o : (Int32 × Mem)} {k10 : Mem → Int32 → Option (Int32 × Mem)} (hk10 : ∀ (M : Mem) (v2 : Int32) (H : Heap) (locs : List Loc) (ls : Array Slot), k10 M v2 = some o → GU dC dI cy a s.heap M H locs → lv_has ls 4 [(0, .ref (a this)), (1, .int v1), (2, .int v2)] → W p l e ({ frames := 5, cells := 0, slots := 0, locals := 119 } : Room) s m args below meth c H locs 0 0 (MQ below (QUi dC dI cy a o.1 o.2) args s 0 0 (AU a)) (F0 m 10 ls [])) : ∀ (n : Nat) (M : Mem) (v3 : Int32) (H : Heap) (locs : List Loc) (ls : Array Slot), f_X4_letEarliestGo_L23 k10 this v1 v2 n M v3 = some o → GU dC dI cy a s.heap M H locs → lv_has ls 4 [(0, .ref (a this)), (1, .int v1), (2, .int v2), (3, .int v3)] → W p l e ({ frames := 5, cells := 0, slots := 0, locals := 119 } : Room) s m args below meth c H locs 0 0 (MQ below (QUi dC dI cy a o.1 o.2) args s 0 0 (AU a)) (F0 m 23 ls []) := by
  have hx := X.1.1
  have hb := X.1.2.1
  have hown := X.1.2.2.2.1
  have hts := X.1.2.2.2.2
  intro n
  induction n with
  | zero => intro M v3 H locs ls hf; cases hf
  | succ n ih =>
    intro M v3 H locs ls hf hG hl
    rw [f_X4_letEarliestGo_L23] at hf
    refine lv_iload_n hx hb dX4_letEarliestGo_23 rfl (lv_at hl 3 rfl) ?_
    refine lv_bipush (v := 30) hx hb dX4_letEarliestGo_24 (by decide) ?_
    refine lv_icmp_ge (tgt := 56) hx hb dX4_letEarliestGo_26 (by decide) (fun c1 => ?_) (fun c1 => ?_)
    · have hf := itep c1 hf
      exact w_X4_letEarliestGo_L56 X hT hk10 hf hG (lv_sub hl [0, 1, 2] rfl)
    · have hf := iten c1 hf
      refine lv_aload_n hx hb dX4_letEarliestGo_29 rfl (lv_at hl 0 rfl) ?_
      refine gf_X4_10 X hG hT dX4_letEarliestGo_30 ?_
      refine gf_X4_156 X hG hT.2.1 dX4_letEarliestGo_33 ?_
      refine lv_iload_n hx hb dX4_letEarliestGo_36 rfl (lv_at hl 2 rfl) ?_
      obtain ⟨hi2, hf⟩ := ck_some hf
      refine mw_aald0 X hG hT.2.1.2.2.1 hi2 dX4_letEarliestGo_37 ?_
      obtain ⟨x3, hr4, hf⟩ := bd_some hf
      refine mw_callVi (rest := []) X hG (hT.2.1.2.2.2.2.2.2 _ (vin_lt hi2)).1 rfl (c_X2_firstTime l dC dI cy a X.2.2.1 (this + 1 + 9 + 4 + 4 * v2.toNatClampNeg) (hT.2.1.2.2.2.2.2.2 _ (vin_lt hi2)) M  hr4) (mw_cwV X 0 g_X4_163 hd_X2_firstTime ⟨rfl, rfl⟩ ⟨Nat.le_of_ble_eq_true rfl, Nat.le_of_ble_eq_true rfl⟩) rfl hl.1 rfl (Nat.le_of_ble_eq_true rfl) dX4_letEarliestGo_38 (fun H locs hG => ?_)
      refine lv_iload_n hx hb dX4_letEarliestGo_41 rfl (lv_at hl 1 rfl) ?_
      refine lv_icmp_ne (tgt := 56) hx hb dX4_letEarliestGo_42 (by decide) (fun c5 => ?_) (fun c5 => ?_)
      · have hf := iten c5 hf
        exact w_X4_letEarliestGo_L56 X hT hk10 hf hG (lv_sub hl [0, 1, 2] rfl)
      · have hf := itep c5 hf
        refine lv_aload_n hx hb dX4_letEarliestGo_45 rfl (lv_at hl 0 rfl) ?_
        refine lv_iload_n hx hb dX4_letEarliestGo_46 rfl (lv_at hl 2 rfl) ?_
        obtain ⟨M6, hr8, hf⟩ := bd_some hf
        refine mw_callVv (rest := []) X hG hT.1 rfl (c_X4_workAndWriteDown l dC dI cy a X.2.2.1 this hT M v2 hr8) (mw_cwV X 1 g_X4_241 hd_X4_workAndWriteDown ⟨rfl, rfl⟩ ⟨Nat.le_of_ble_eq_true rfl, Nat.le_of_ble_eq_true rfl⟩) rfl hl.1 rfl (Nat.le_of_ble_eq_true rfl) dX4_letEarliestGo_47 (fun H locs hG => ?_)
        obtain ⟨x9, ex9⟩ : ∃ y : Int32, y = v3 + (1 : Int32) := ⟨_, rfl⟩
        have hf := nm_of ex9 hf
        refine lv_iinc (v := x9) (lv' := [(3, .int x9), (0, .ref (a this)), (1, .int v1), (2, .int v2)]) hx hb dX4_letEarliestGo_50 hl (k := 3) rfl (by rw [ex9]; rfl) (by decide) rfl (fun ls hl => ?_)
        refine lv_goto (tgt := 23) hx hb dX4_letEarliestGo_53 (by decide) ?_
        exact ih _ _ _ _ _ hf hG (lv_sub hl [1, 2, 3, 0] rfl)
set_option maxHeartbeats 4000000 in
set_option maxRecDepth 100000 in
theorem w_X4_letEarliestGo_L10 {l : Launch} {dC : Nat → ClassId} {dI : Nat → Nat → Nat} {cy : Nat → ClassId} {a : Nat → Nat} {p : Program} {e : Env} {s : State} {m : MethodId} {args : Array Value} {below : List Frame} {meth : Method} {c : Code} (X : XU dC dI cy a p s m c args meth cX4_letEarliestGo 4 RX4 (some .int)) {this : Nat} (hT : K4 this) {v1 : Int32} {o : (Int32 × Mem)} : ∀ (n : Nat) (M : Mem) (v2 : Int32) (H : Heap) (locs : List Loc) (ls : Array Slot), f_X4_letEarliestGo_L10 this v1 n M v2 = some o → GU dC dI cy a s.heap M H locs → lv_has ls 4 [(0, .ref (a this)), (1, .int v1), (2, .int v2)] → W p l e ({ frames := 5, cells := 0, slots := 0, locals := 119 } : Room) s m args below meth c H locs 0 0 (MQ below (QUi dC dI cy a o.1 o.2) args s 0 0 (AU a)) (F0 m 10 ls []) := by
  have hx := X.1.1
  have hb := X.1.2.1
  have hown := X.1.2.2.2.1
  have hts := X.1.2.2.2.2
  intro n
  induction n with
  | zero => intro M v2 H locs ls hf; cases hf
  | succ n ih =>
    intro M v2 H locs ls hf hG hl
    rw [f_X4_letEarliestGo_L10] at hf
    refine lv_iload_n hx hb dX4_letEarliestGo_10 rfl (lv_at hl 2 rfl) ?_
    refine lv_aload_n hx hb dX4_letEarliestGo_11 rfl (lv_at hl 0 rfl) ?_
    refine gf_X4_10 X hG hT dX4_letEarliestGo_12 ?_
    refine gf_X4_93 X hG hT.2.1 dX4_letEarliestGo_15 ?_
    refine lv_icmp_ge (tgt := 62) hx hb dX4_letEarliestGo_18 (by decide) (fun c1 => ?_) (fun c1 => ?_)
    · have hf := itep c1 hf
      refine lv_aload_n hx hb dX4_letEarliestGo_62 rfl (lv_at hl 0 rfl) ?_
      refine gf_X4_10 X hG hT dX4_letEarliestGo_63 ?_
      refine gf_X4_59 X hG hT.2.1 dX4_letEarliestGo_66 ?_
      refine lv_iload_n hx hb dX4_letEarliestGo_69 rfl (lv_at hl 1 rfl) ?_
      refine lv_iconst (v := 1) hx hb dX4_letEarliestGo_70 (by decide) ?_
      refine lv_iadd hx hb dX4_letEarliestGo_71 ?_
      obtain ⟨M2, hr4, hf⟩ := bd_some hf
      refine mw_callVv (rest := []) X hG hT.2.1.2.1.1 rfl (c_X0_raiseClocks l dC dI cy a X.2.2.1 (this + 1 + 1) hT.2.1.2.1 M (v1 + (1 : Int32)) hr4) (mw_cwV X 1 g_X4_247 hd_X0_raiseClocks ⟨rfl, rfl⟩ ⟨Nat.le_of_ble_eq_true rfl, Nat.le_of_ble_eq_true rfl⟩) rfl hl.1 rfl (Nat.le_of_ble_eq_true rfl) dX4_letEarliestGo_72 (fun H locs hG => ?_)
      refine lv_aload_n hx hb dX4_letEarliestGo_75 rfl (lv_at hl 0 rfl) ?_
      refine gf_X4_10 X hG hT dX4_letEarliestGo_76 ?_
      refine lv_dup hx hb dX4_letEarliestGo_79 rfl ?_
      refine gf_X4_129 X hG hT.2.1 dX4_letEarliestGo_80 ?_
      refine lv_iconst (v := 1) hx hb dX4_letEarliestGo_83 (by decide) ?_
      refine lv_iadd hx hb dX4_letEarliestGo_84 ?_
      refine pf_X4_129 X hG hT.2.1 dX4_letEarliestGo_85 (fun M5 H locs eM5 hG => ?_)
      have hf := nm_of eM5 hf
      refine lv_iload_n hx hb dX4_letEarliestGo_88 rfl (lv_at hl 1 rfl) ?_
      obtain rfl := Option.some.inj hf
      exact mw_iret X hG dX4_letEarliestGo_89
    · have hf := iten c1 hf
      refine lv_iconst (v := 0) hx hb dX4_letEarliestGo_21 (by decide) ?_
      refine lv_istore_n (lv' := [(3, .int (0 : Int32)), (0, .ref (a this)), (1, .int v1), (2, .int v2)]) hx hb dX4_letEarliestGo_22 rfl hl (by decide) rfl (fun ls hl => ?_)
      exact w_X4_letEarliestGo_L23 X hT ih 1000 _ _ _ _ _ hf hG (lv_sub hl [1, 2, 3, 0] rfl)
set_option maxHeartbeats 4000000 in
set_option maxRecDepth 100000 in
theorem c_X4_letEarliestGo (l : Launch) (dC : Nat → ClassId) (dI : Nat → Nat → Nat) (cy : Nat → ClassId) (a : Nat → Nat) (ha : injU a) (this : Nat) (hT : K4 this) (M : Mem) {o : (Int32 × Mem)} (hf : f_X4_letEarliestGo M this = some o) : Met l yX4_letEarliestGo (wsU yX4_letEarliestGo cX4_letEarliestGo 4 (some .int)) ({ frames := 5, cells := 0, slots := 0, locals := 119 } : Room) (PU dC dI cy a [.ref (a this)] M) (QUi dC dI cy a o.1 o.2) 0 0 (AU a) := by
  refine mw_met (by decide) ha (Nat.le_of_ble_eq_true rfl) ?_
  intro p e s m below meth c ls X hG hl
  have hl : lv_has ls 4 [(0, .ref (a this))] := hl
  have X : XU dC dI cy a p s m c [.ref (a this)].toArray meth cX4_letEarliestGo 4 RX4 (some .int) := X
  have hx := X.1.1
  have hb := X.1.2.1
  have hown := X.1.2.2.2.1
  have hts := X.1.2.2.2.2
  rw [f_X4_letEarliestGo] at hf
  refine lv_aload_n hx hb dX4_letEarliestGo_0 rfl (lv_at hl 0 rfl) ?_
  refine gf_X4_10 X hG hT dX4_letEarliestGo_1 ?_
  obtain ⟨x1, hr2, hf⟩ := bd_some hf
  refine mw_callVi (rest := []) X hG hT.2.1.1 rfl (c_X3_leastTime l dC dI cy a X.2.2.1 (this + 1) hT.2.1 M  hr2) (mw_cwV X 0 g_X4_132 hd_X3_leastTime ⟨rfl, rfl⟩ ⟨Nat.le_of_ble_eq_true rfl, Nat.le_of_ble_eq_true rfl⟩) rfl hl.1 rfl (Nat.le_of_ble_eq_true rfl) dX4_letEarliestGo_4 (fun H locs hG => ?_)
  refine lv_istore_n (lv' := [(1, .int x1), (0, .ref (a this))]) hx hb dX4_letEarliestGo_7 rfl hl (by decide) rfl (fun ls hl => ?_)
  refine lv_iconst (v := 0) hx hb dX4_letEarliestGo_8 (by decide) ?_
  refine lv_istore_n (lv' := [(2, .int (0 : Int32)), (1, .int x1), (0, .ref (a this))]) hx hb dX4_letEarliestGo_9 rfl hl (by decide) rfl (fun ls hl => ?_)
  exact w_X4_letEarliestGo_L10 X hT 1000 _ _ _ _ _ hf hG (lv_sub hl [2, 1, 0] rfl)
