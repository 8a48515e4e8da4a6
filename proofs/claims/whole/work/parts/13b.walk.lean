/-! X4_letGo -/
set_option maxHeartbeats 4000000 in
set_option maxRecDepth 100000 in
theorem w_X4_letGo_L20 {l : Launch} {dC : Nat → ClassId} {dI : Nat → Nat → Nat} {cy : Nat → ClassId} {a : Nat → Nat} {p : Program} {e : Env} {s : State} {m : MethodId} {args : Array Value} {below : List Frame} {meth : Method} {c : Code} (X : XU dC dI cy a p s m c args meth cX4_letGo 1 RX4 (some .int)) {M : Mem} {this : Nat} (hT : K4 this) {o : (Int32 × Mem)} {H : Heap} {locs : List Loc} {ls : Array Slot} (hf : f_X4_letGo_L20 M this = some o) (hG : GU dC dI cy a s.heap M H locs) (hl : lv_has ls 1 [(0, .ref (a this))]) : W p l e ({ frames := 6, cells := 0, slots := 0, locals := 142 } : Room) s m args below meth c H locs 0 0 (MQ below (QUi dC dI cy a o.1 o.2) args s 0 0 (AU a)) (F0 m 20 ls []) := by
  have hx := X.1.1
  have hb := X.1.2.1
  have hown := X.1.2.2.2.1
  have hts := X.1.2.2.2.2
  rw [f_X4_letGo_L20] at hf
  refine lv_ldc (v := -1000000003) hx hb hown (hts _ wd_ct_X4_73) dX4_letGo_20 ?_
  obtain rfl := Option.some.inj hf
  exact mw_iret X hG dX4_letGo_22
set_option maxHeartbeats 4000000 in
set_option maxRecDepth 100000 in
theorem c_X4_letGo (l : Launch) (dC : Nat → ClassId) (dI : Nat → Nat → Nat) (cy : Nat → ClassId) (a : Nat → Nat) (ha : injU a) (this : Nat) (hT : K4 this) (M : Mem) {o : (Int32 × Mem)} (hf : f_X4_letGo M this = some o) : Met l yX4_letGo (wsU yX4_letGo cX4_letGo 1 (some .int)) ({ frames := 6, cells := 0, slots := 0, locals := 142 } : Room) (PU dC dI cy a [.ref (a this)] M) (QUi dC dI cy a o.1 o.2) 0 0 (AU a) := by
  refine mw_met (by decide) ha (Nat.le_of_ble_eq_true rfl) ?_
  intro p e s m below meth c ls X hG hl
  have hl : lv_has ls 1 [(0, .ref (a this))] := hl
  have X : XU dC dI cy a p s m c [.ref (a this)].toArray meth cX4_letGo 1 RX4 (some .int) := X
  have hx := X.1.1
  have hb := X.1.2.1
  have hown := X.1.2.2.2.1
  have hts := X.1.2.2.2.2
  rw [f_X4_letGo] at hf
  refine lv_aload_n hx hb dX4_letGo_0 rfl (lv_at hl 0 rfl) ?_
  refine gf_X4_10 X hG hT dX4_letGo_1 ?_
  obtain ⟨x1, hr2, hf⟩ := bd_some hf
  refine mw_callVi (rest := []) X hG hT.2.1.1 rfl (c_X3_eventsThatWait l dC dI cy a X.2.2.1 (this + 1) hT.2.1 M  hr2) (mw_cwV X 0 g_X4_111 hd_X3_eventsThatWait ⟨rfl, rfl⟩ ⟨Nat.le_of_ble_eq_true rfl, Nat.le_of_ble_eq_true rfl⟩) rfl hl.1 rfl (Nat.le_of_ble_eq_true rfl) dX4_letGo_4 (fun H locs hG => ?_)
  refine lv_if_eq (tgt := 20) hx hb dX4_letGo_7 (by decide) (fun c3 => ?_) (fun c3 => ?_)
  · have hf := itep c3 hf
    exact w_X4_letGo_L20 X hT hf hG (lv_sub hl [0] rfl)
  · have hf := iten c3 hf
    refine lv_aload_n hx hb dX4_letGo_10 rfl (lv_at hl 0 rfl) ?_
    refine gf_X4_10 X hG hT dX4_letGo_11 ?_
    obtain ⟨x4, hr5, hf⟩ := bd_some hf
    refine mw_callVi (rest := []) X hG hT.2.1.1 rfl (c_X3_partsThatMay l dC dI cy a X.2.2.1 (this + 1) hT.2.1 M  hr5) (mw_cwV X 0 g_X4_117 hd_X3_partsThatMay ⟨rfl, rfl⟩ ⟨Nat.le_of_ble_eq_true rfl, Nat.le_of_ble_eq_true rfl⟩) rfl hl.1 rfl (Nat.le_of_ble_eq_true rfl) dX4_letGo_14 (fun H locs hG => ?_)
    refine lv_if_eq (tgt := 23) hx hb dX4_letGo_17 (by decide) (fun c6 => ?_) (fun c6 => ?_)
    · have hf := itep c6 hf
      refine lv_aload_n hx hb dX4_letGo_23 rfl (lv_at hl 0 rfl) ?_
      obtain ⟨x8, M7, hr9, hf⟩ := bd2_some hf
      refine mw_callVi (rest := []) X hG hT.1 rfl (c_X4_letEarliestGo l dC dI cy a X.2.2.1 this hT M  hr9) (mw_cwV X 0 g_X4_120 hd_X4_letEarliestGo ⟨rfl, rfl⟩ ⟨Nat.le_of_ble_eq_true rfl, Nat.le_of_ble_eq_true rfl⟩) rfl hl.1 rfl (Nat.le_of_ble_eq_true rfl) dX4_letGo_24 (fun H locs hG => ?_)
      obtain rfl := Option.some.inj hf
      exact mw_iret X hG dX4_letGo_27
    · have hf := iten c6 hf
      exact w_X4_letGo_L20 X hT hf hG (lv_sub hl [0] rfl)
/-! X4_finish -/
set_option maxHeartbeats 4000000 in
set_option maxRecDepth 100000 in
theorem w_X4_finish_L58 {l : Launch} {dC : Nat → ClassId} {dI : Nat → Nat → Nat} {cy : Nat → ClassId} {a : Nat → Nat} {p : Program} {e : Env} {s : State} {m : MethodId} {args : Array Value} {below : List Frame} {meth : Method} {c : Code} (X : XU dC dI cy a p s m c args meth cX4_finish 4 RX4 (some .int)) {M : Mem} {this : Nat} (hT : K4 this) {v1 : Int32} {v2 : Int32} {v3 : Int32} {o : (Int32 × Mem)} {k22 : Mem → Int32 → Int32 → Option (Int32 × Mem)} (hk22 : ∀ (M : Mem) (v2 : Int32) (v3 : Int32) (H : Heap) (locs : List Loc) (ls : Array Slot), k22 M v2 v3 = some o → GU dC dI cy a s.heap M H locs → lv_has ls 4 [(0, .ref (a this)), (1, .int v1), (2, .int v2), (3, .int v3)] → W p l e ({ frames := 6, cells := 0, slots := 0, locals := 142 } : Room) s m args below meth c H locs 0 0 (MQ below (QUi dC dI cy a o.1 o.2) args s 0 0 (AU a)) (F0 m 22 ls [])) {H : Heap} {locs : List Loc} {ls : Array Slot} (hf : f_X4_finish_L58 k22 M this v1 v2 v3 = some o) (hG : GU dC dI cy a s.heap M H locs) (hl : lv_has ls 4 [(0, .ref (a this)), (1, .int v1), (2, .int v2), (3, .int v3)]) : W p l e ({ frames := 6, cells := 0, slots := 0, locals := 142 } : Room) s m args below meth c H locs 0 0 (MQ below (QUi dC dI cy a o.1 o.2) args s 0 0 (AU a)) (F0 m 58 ls []) := by
  have hx := X.1.1
  have hb := X.1.2.1
  have hown := X.1.2.2.2.1
  have hts := X.1.2.2.2.2
  rw [f_X4_finish_L58] at hf
  obtain ⟨x1, ex1⟩ : ∃ y : Int32, y = v3 + (1 : Int32) := ⟨_, rfl⟩
  have hf := nm_of ex1 hf
  refine lv_iinc (v := x1) (lv' := [(3, .int x1), (0, .ref (a this)), (1, .int v1), (2, .int v2)]) hx hb dX4_finish_58 hl (k := 3) rfl (by rw [ex1]; rfl) (by decide) rfl (fun ls hl => ?_)
  refine lv_goto (tgt := 22) hx hb dX4_finish_61 (by decide) ?_
  exact hk22 _ _ _ _ _ _ hf hG (lv_sub hl [1, 2, 3, 0] rfl)
set_option maxHeartbeats 4000000 in
set_option maxRecDepth 100000 in
theorem w_X4_finish_L64 {l : Launch} {dC : Nat → ClassId} {dI : Nat → Nat → Nat} {cy : Nat → ClassId} {a : Nat → Nat} {p : Program} {e : Env} {s : State} {m : MethodId} {args : Array Value} {below : List Frame} {meth : Method} {c : Code} (X : XU dC dI cy a p s m c args meth cX4_finish 4 RX4 (some .int)) {M : Mem} {this : Nat} (hT : K4 this) {v1 : Int32} {o : (Int32 × Mem)} {H : Heap} {locs : List Loc} {ls : Array Slot} (hf : f_X4_finish_L64 M this v1 = some o) (hG : GU dC dI cy a s.heap M H locs) (hl : lv_has ls 4 [(0, .ref (a this)), (1, .int v1)]) : W p l e ({ frames := 6, cells := 0, slots := 0, locals := 142 } : Room) s m args below meth c H locs 0 0 (MQ below (QUi dC dI cy a o.1 o.2) args s 0 0 (AU a)) (F0 m 64 ls []) := by
  have hx := X.1.1
  have hb := X.1.2.1
  have hown := X.1.2.2.2.1
  have hts := X.1.2.2.2.2
  rw [f_X4_finish_L64] at hf
  refine lv_aload_n hx hb dX4_finish_64 rfl (lv_at hl 0 rfl) ?_
  refine gf_X4_10 X hG hT dX4_finish_65 ?_
  refine gf_X4_43 X hG hT.2.1 dX4_finish_68 ?_
  refine lv_iload_n hx hb dX4_finish_71 rfl (lv_at hl 1 rfl) ?_
  refine lv_isub hx hb dX4_finish_72 ?_
  obtain rfl := Option.some.inj hf
  exact mw_iret X hG dX4_finish_73
set_option maxHeartbeats 4000000 in
set_option maxRecDepth 100000 in
theorem w_X4_finish_L22 {l : Launch} {dC : Nat → ClassId} {dI : Nat → Nat → Nat} {cy : Nat → ClassId} {a : Nat → Nat} {p : Program} {e : Env} {s : State} {m : MethodId} {args : Array Value} {below : List Frame} {meth : Method} {c : Code} (X : XU dC dI cy a p s m c args meth cX4_finish 4 RX4 (some .int)) {this : Nat} (hT : K4 this) {v1 : Int32} {o : (Int32 × Mem)} : ∀ (n : Nat) (M : Mem) (v2 : Int32) (v3 : Int32) (H : Heap) (locs : List Loc) (ls : Array Slot), f_X4_finish_L22 this v1 n M v2 v3 = some o → GU dC dI cy a s.heap M H locs → lv_has ls 4 [(0, .ref (a this)), (1, .int v1), (2, .int v2), (3, .int v3)] → W p l e ({ frames := 6, cells := 0, slots := 0, locals := 142 } : Room) s m args below meth c H locs 0 0 (MQ below (QUi dC dI cy a o.1 o.2) args s 0 0 (AU a)) (F0 m 22 ls []) := by
  have hx := X.1.1
  have hb := X.1.2.1
  have hown := X.1.2.2.2.1
  have hts := X.1.2.2.2.2
  intro n
  induction n with
  | zero => intro M v2 v3 H locs ls hf; cases hf
  | succ n ih =>
    intro M v2 v3 H locs ls hf hG hl
    rw [f_X4_finish_L22] at hf
    refine lv_iload_n hx hb dX4_finish_22 rfl (lv_at hl 3 rfl) ?_
    refine lv_sipush (v := 400) hx hb dX4_finish_23 (by decide) ?_
    refine lv_icmp_ge (tgt := 64) hx hb dX4_finish_26 (by decide) (fun c1 => ?_) (fun c1 => ?_)
    · have hf := itep c1 hf
      exact w_X4_finish_L64 X hT hf hG (lv_sub hl [0, 1] rfl)
    · have hf := iten c1 hf
      refine lv_aload_n hx hb dX4_finish_29 rfl (lv_at hl 0 rfl) ?_
      refine gf_X4_10 X hG hT dX4_finish_30 ?_
      obtain ⟨x2, hr3, hf⟩ := bd_some hf
      refine mw_callVi (rest := []) X hG hT.2.1.1 rfl (c_X3_eventsThatWait l dC dI cy a X.2.2.1 (this + 1) hT.2.1 M  hr3) (mw_cwV X 0 g_X4_111 hd_X3_eventsThatWait ⟨rfl, rfl⟩ ⟨Nat.le_of_ble_eq_true rfl, Nat.le_of_ble_eq_true rfl⟩) rfl hl.1 rfl (Nat.le_of_ble_eq_true rfl) dX4_finish_33 (fun H locs hG => ?_)
      refine lv_if_le (tgt := 64) hx hb dX4_finish_36 (by decide) (fun c4 => ?_) (fun c4 => ?_)
      · have hf := itep c4 hf
        exact w_X4_finish_L64 X hT hf hG (lv_sub hl [0, 1] rfl)
      · have hf := iten c4 hf
        refine lv_iload_n hx hb dX4_finish_39 rfl (lv_at hl 2 rfl) ?_
        refine lv_if_eq (tgt := 53) hx hb dX4_finish_40 (by decide) (fun c5 => ?_) (fun c5 => ?_)
        · have hf := itep c5 hf
          refine lv_aload_n hx hb dX4_finish_53 rfl (lv_at hl 0 rfl) ?_
          obtain ⟨x7, M6, hr8, hf⟩ := bd2_some hf
          refine mw_callVi (rest := []) X hG hT.1 rfl (c_X4_isStillAfterRound l dC dI cy a X.2.2.1 this hT M  hr8) (mw_cwV X 0 g_X4_114 hd_X4_isStillAfterRound ⟨rfl, rfl⟩ ⟨Nat.le_of_ble_eq_true rfl, Nat.le_of_ble_eq_true rfl⟩) rfl hl.1 rfl (Nat.le_of_ble_eq_true rfl) dX4_finish_54 (fun H locs hG => ?_)
          refine lv_istore_n (lv' := [(2, .int x7), (0, .ref (a this)), (1, .int v1), (3, .int v3)]) hx hb dX4_finish_57 rfl hl (by decide) rfl (fun ls hl => ?_)
          exact w_X4_finish_L58 X hT ih hf hG (lv_sub hl [1, 2, 0, 3] rfl)
        · have hf := iten c5 hf
          refine lv_aload_n hx hb dX4_finish_43 rfl (lv_at hl 0 rfl) ?_
          obtain ⟨x10, M9, hr11, hf⟩ := bd2_some hf
          refine mw_callVi (rest := []) X hG hT.1 rfl (c_X4_letEarliestGo l dC dI cy a X.2.2.1 this hT M  hr11) (mw_cwV X 0 g_X4_120 hd_X4_letEarliestGo ⟨rfl, rfl⟩ ⟨Nat.le_of_ble_eq_true rfl, Nat.le_of_ble_eq_true rfl⟩) rfl hl.1 rfl (Nat.le_of_ble_eq_true rfl) dX4_finish_44 (fun H locs hG => ?_)
          refine lv_pop hx hb dX4_finish_47 rfl ?_
          refine lv_iconst (v := 0) hx hb dX4_finish_48 (by decide) ?_
          refine lv_istore_n (lv' := [(2, .int (0 : Int32)), (0, .ref (a this)), (1, .int v1), (3, .int v3)]) hx hb dX4_finish_49 rfl hl (by decide) rfl (fun ls hl => ?_)
          refine lv_goto (tgt := 58) hx hb dX4_finish_50 (by decide) ?_
          exact w_X4_finish_L58 X hT ih hf hG (lv_sub hl [1, 2, 0, 3] rfl)
set_option maxHeartbeats 4000000 in
set_option maxRecDepth 100000 in
theorem c_X4_finish (l : Launch) (dC : Nat → ClassId) (dI : Nat → Nat → Nat) (cy : Nat → ClassId) (a : Nat → Nat) (ha : injU a) (this : Nat) (hT : K4 this) (M : Mem) {o : (Int32 × Mem)} (hf : f_X4_finish M this = some o) : Met l yX4_finish (wsU yX4_finish cX4_finish 4 (some .int)) ({ frames := 6, cells := 0, slots := 0, locals := 142 } : Room) (PU dC dI cy a [.ref (a this)] M) (QUi dC dI cy a o.1 o.2) 0 0 (AU a) := by
  refine mw_met (by decide) ha (Nat.le_of_ble_eq_true rfl) ?_
  intro p e s m below meth c ls X hG hl
  have hl : lv_has ls 4 [(0, .ref (a this))] := hl
  have X : XU dC dI cy a p s m c [.ref (a this)].toArray meth cX4_finish 4 RX4 (some .int) := X
  have hx := X.1.1
  have hb := X.1.2.1
  have hown := X.1.2.2.2.1
  have hts := X.1.2.2.2.2
  rw [f_X4_finish] at hf
  refine lv_aload_n hx hb dX4_finish_0 rfl (lv_at hl 0 rfl) ?_
  obtain ⟨x1, hr2, hf⟩ := bd_some hf
  refine mw_callVi (rest := []) X hG hT.1 rfl (c_X4_nothingIsRun l dC dI cy a X.2.2.1 this hT M  hr2) (mw_cwV X 0 g_X4_107 hd_X4_nothingIsRun ⟨rfl, rfl⟩ ⟨Nat.le_of_ble_eq_true rfl, Nat.le_of_ble_eq_true rfl⟩) rfl hl.1 rfl (Nat.le_of_ble_eq_true rfl) dX4_finish_1 (fun H locs hG => ?_)
  refine lv_if_eq (tgt := 10) hx hb dX4_finish_4 (by decide) (fun c3 => ?_) (fun c3 => ?_)
  · have hf := itep c3 hf
    refine lv_aload_n hx hb dX4_finish_10 rfl (lv_at hl 0 rfl) ?_
    refine gf_X4_10 X hG hT dX4_finish_11 ?_
    refine gf_X4_43 X hG hT.2.1 dX4_finish_14 ?_
    refine lv_topi (fun x4 ex4 => ?_)
    have hf := nm_of ex4 hf
    refine lv_istore_n (lv' := [(1, .int x4), (0, .ref (a this))]) hx hb dX4_finish_17 rfl hl (by decide) rfl (fun ls hl => ?_)
    refine lv_iconst (v := 0) hx hb dX4_finish_18 (by decide) ?_
    refine lv_istore_n (lv' := [(2, .int (0 : Int32)), (1, .int x4), (0, .ref (a this))]) hx hb dX4_finish_19 rfl hl (by decide) rfl (fun ls hl => ?_)
    refine lv_iconst (v := 0) hx hb dX4_finish_20 (by decide) ?_
    refine lv_istore_n (lv' := [(3, .int (0 : Int32)), (2, .int (0 : Int32)), (1, .int x4), (0, .ref (a this))]) hx hb dX4_finish_21 rfl hl (by decide) rfl (fun ls hl => ?_)
    exact w_X4_finish_L22 X hT 1000 _ _ _ _ _ _ hf hG (lv_sub hl [3, 2, 1, 0] rfl)
  · have hf := iten c3 hf
    refine lv_ldc (v := -1000000003) hx hb hown (hts _ wd_ct_X4_73) dX4_finish_7 ?_
    obtain rfl := Option.some.inj hf
    exact mw_iret X hG dX4_finish_9
/-! X4_told -/
set_option maxHeartbeats 4000000 in
set_option maxRecDepth 100000 in
theorem w_X4_told_L184 {l : Launch} {dC : Nat → ClassId} {dI : Nat → Nat → Nat} {cy : Nat → ClassId} {a : Nat → Nat} {p : Program} {e : Env} {s : State} {m : MethodId} {args : Array Value} {below : List Frame} {meth : Method} {c : Code} (X : XU dC dI cy a p s m c args meth cX4_told 2 RX4 (some .int)) {M : Mem} {this : Nat} (hT : K4 this) {s0 : Int32} {o : Int32} {H : Heap} {locs : List Loc} {ls : Array Slot} (hf : f_X4_told_L184 M this s0 = some o) (hG : GU dC dI cy a s.heap M H locs) (hl : lv_has ls 2 [(0, .ref (a this))]) : W p l e ({ frames := 4, cells := 0, slots := 0, locals := 88 } : Room) s m args below meth c H locs 0 0 (MQ below (QUi dC dI cy a o M) args s 0 0 (AU a)) (F0 m 184 ls [.int s0]) := by
  have hx := X.1.1
  have hb := X.1.2.1
  have hown := X.1.2.2.2.1
  have hts := X.1.2.2.2.2
  rw [f_X4_told_L184] at hf
  obtain rfl := Option.some.inj hf
  exact mw_iret X hG dX4_told_184
set_option maxHeartbeats 4000000 in
set_option maxRecDepth 100000 in
theorem c_X4_told (l : Launch) (dC : Nat → ClassId) (dI : Nat → Nat → Nat) (cy : Nat → ClassId) (a : Nat → Nat) (ha : injU a) (this : Nat) (hT : K4 this) (M : Mem) (v1 : Int32) {o : Int32} (hf : f_X4_told M this v1 = some o) : Met l yX4_told (wsU yX4_told cX4_told 2 (some .int)) ({ frames := 4, cells := 0, slots := 0, locals := 88 } : Room) (PU dC dI cy a [.ref (a this), .int v1] M) (QUi dC dI cy a o M) 0 0 (AU a) := by
  refine mw_met (by decide) ha (Nat.le_of_ble_eq_true rfl) ?_
  intro p e s m below meth c ls X hG hl
  have hl : lv_has ls 2 [(0, .ref (a this)), (1, .int v1)] := hl
  have X : XU dC dI cy a p s m c [.ref (a this), .int v1].toArray meth cX4_told 2 RX4 (some .int) := X
  have hx := X.1.1
  have hb := X.1.2.1
  have hown := X.1.2.2.2.1
  have hts := X.1.2.2.2.2
  rw [f_X4_told] at hf
  refine lv_iload_n hx hb dX4_told_0 rfl (lv_at hl 1 rfl) ?_
  by_cases c1 : v1 = (0 : Int32)
  · have hf := itep c1 hf
    refine lv_tableIn (off := 67) (tgt := 68) hx hb dX4_told_1 (by rw [c1]; decide) (by rw [c1]; decide) (by rw [c1]; rfl) (by decide) ?_
    refine lv_aload_n hx hb dX4_told_68 rfl (lv_at hl 0 rfl) ?_
    refine gf_X4_10 X hG hT dX4_told_69 ?_
    refine gf_X4_93 X hG hT.2.1 dX4_told_72 ?_
    obtain rfl := Option.some.inj hf
    exact mw_iret X hG dX4_told_75
  · have hf := iten c1 hf
    by_cases c2 : v1 = (1 : Int32)
    · have hf := itep c2 hf
      refine lv_tableIn (off := 75) (tgt := 76) hx hb dX4_told_1 (by rw [c2]; decide) (by rw [c2]; decide) (by rw [c2]; rfl) (by decide) ?_
      refine lv_aload_n hx hb dX4_told_76 rfl (lv_at hl 0 rfl) ?_
      refine gf_X4_10 X hG hT dX4_told_77 ?_
      refine gf_X4_59 X hG hT.2.1 dX4_told_80 ?_
      refine gf_X4_74 X hG hT.2.1.2.1 dX4_told_83 ?_
      obtain rfl := Option.some.inj hf
      exact mw_iret X hG dX4_told_86
    · have hf := iten c2 hf
      by_cases c3 : v1 = (2 : Int32)
      · have hf := itep c3 hf
        refine lv_tableIn (off := 86) (tgt := 87) hx hb dX4_told_1 (by rw [c3]; decide) (by rw [c3]; decide) (by rw [c3]; rfl) (by decide) ?_
        refine lv_aload_n hx hb dX4_told_87 rfl (lv_at hl 0 rfl) ?_
        refine gf_X4_10 X hG hT dX4_told_88 ?_
        refine gf_X4_89 X hG hT.2.1 dX4_told_91 ?_
        obtain rfl := Option.some.inj hf
        exact mw_iret X hG dX4_told_94
      · have hf := iten c3 hf
        by_cases c4 : v1 = (3 : Int32)
        · have hf := itep c4 hf
          refine lv_tableIn (off := 94) (tgt := 95) hx hb dX4_told_1 (by rw [c4]; decide) (by rw [c4]; decide) (by rw [c4]; rfl) (by decide) ?_
          refine lv_aload_n hx hb dX4_told_95 rfl (lv_at hl 0 rfl) ?_
          refine gf_X4_10 X hG hT dX4_told_96 ?_
          obtain ⟨x5, hr6, hf⟩ := bd_some hf
          refine mw_callVi (rest := []) X hG hT.2.1.1 rfl (c_X3_eventsThatWait l dC dI cy a X.2.2.1 (this + 1) hT.2.1 M  hr6) (mw_cwV X 0 g_X4_111 hd_X3_eventsThatWait ⟨rfl, rfl⟩ ⟨Nat.le_of_ble_eq_true rfl, Nat.le_of_ble_eq_true rfl⟩) rfl hl.1 rfl (Nat.le_of_ble_eq_true rfl) dX4_told_99 (fun H locs hG => ?_)
          obtain rfl := Option.some.inj hf
          exact mw_iret X hG dX4_told_102
        · have hf := iten c4 hf
          by_cases c7 : v1 = (4 : Int32)
          · have hf := itep c7 hf
            refine lv_tableIn (off := 102) (tgt := 103) hx hb dX4_told_1 (by rw [c7]; decide) (by rw [c7]; decide) (by rw [c7]; rfl) (by decide) ?_
            refine lv_aload_n hx hb dX4_told_103 rfl (lv_at hl 0 rfl) ?_
            refine gf_X4_10 X hG hT dX4_told_104 ?_
            refine gf_X4_43 X hG hT.2.1 dX4_told_107 ?_
            obtain rfl := Option.some.inj hf
            exact mw_iret X hG dX4_told_110
          · have hf := iten c7 hf
            by_cases c8 : v1 = (5 : Int32)
            · have hf := itep c8 hf
              refine lv_tableIn (off := 110) (tgt := 111) hx hb dX4_told_1 (by rw [c8]; decide) (by rw [c8]; decide) (by rw [c8]; rfl) (by decide) ?_
              refine lv_aload_n hx hb dX4_told_111 rfl (lv_at hl 0 rfl) ?_
              refine gf_X4_10 X hG hT dX4_told_112 ?_
              refine gf_X4_123 X hG hT.2.1 dX4_told_115 ?_
              obtain rfl := Option.some.inj hf
              exact mw_iret X hG dX4_told_118
            · have hf := iten c8 hf
              by_cases c9 : v1 = (6 : Int32)
              · have hf := itep c9 hf
                refine lv_tableIn (off := 118) (tgt := 119) hx hb dX4_told_1 (by rw [c9]; decide) (by rw [c9]; decide) (by rw [c9]; rfl) (by decide) ?_
                refine lv_aload_n hx hb dX4_told_119 rfl (lv_at hl 0 rfl) ?_
                refine gf_X4_10 X hG hT dX4_told_120 ?_
                refine gf_X4_126 X hG hT.2.1 dX4_told_123 ?_
                obtain rfl := Option.some.inj hf
                exact mw_iret X hG dX4_told_126
              · have hf := iten c9 hf
                by_cases c10 : v1 = (7 : Int32)
                · have hf := itep c10 hf
                  refine lv_tableIn (off := 126) (tgt := 127) hx hb dX4_told_1 (by rw [c10]; decide) (by rw [c10]; decide) (by rw [c10]; rfl) (by decide) ?_
                  refine lv_aload_n hx hb dX4_told_127 rfl (lv_at hl 0 rfl) ?_
                  refine gf_X4_10 X hG hT dX4_told_128 ?_
                  refine gf_X4_129 X hG hT.2.1 dX4_told_131 ?_
                  obtain rfl := Option.some.inj hf
                  exact mw_iret X hG dX4_told_134
                · have hf := iten c10 hf
                  by_cases c11 : v1 = (8 : Int32)
                  · have hf := itep c11 hf
                    refine lv_tableIn (off := 134) (tgt := 135) hx hb dX4_told_1 (by rw [c11]; decide) (by rw [c11]; decide) (by rw [c11]; rfl) (by decide) ?_
                    refine lv_aload_n hx hb dX4_told_135 rfl (lv_at hl 0 rfl) ?_
                    refine gf_X4_10 X hG hT dX4_told_136 ?_
                    obtain ⟨x12, hr13, hf⟩ := bd_some hf
                    refine mw_callVi (rest := []) X hG hT.2.1.1 rfl (c_X3_partsThatMay l dC dI cy a X.2.2.1 (this + 1) hT.2.1 M  hr13) (mw_cwV X 0 g_X4_117 hd_X3_partsThatMay ⟨rfl, rfl⟩ ⟨Nat.le_of_ble_eq_true rfl, Nat.le_of_ble_eq_true rfl⟩) rfl hl.1 rfl (Nat.le_of_ble_eq_true rfl) dX4_told_139 (fun H locs hG => ?_)
                    obtain rfl := Option.some.inj hf
                    exact mw_iret X hG dX4_told_142
                  · have hf := iten c11 hf
                    by_cases c14 : v1 = (9 : Int32)
                    · have hf := itep c14 hf
                      refine lv_tableIn (off := 142) (tgt := 143) hx hb dX4_told_1 (by rw [c14]; decide) (by rw [c14]; decide) (by rw [c14]; rfl) (by decide) ?_
                      refine lv_aload_n hx hb dX4_told_143 rfl (lv_at hl 0 rfl) ?_
                      refine gf_X4_10 X hG hT dX4_told_144 ?_
                      obtain ⟨x15, hr16, hf⟩ := bd_some hf
                      refine mw_callVi (rest := []) X hG hT.2.1.1 rfl (c_X3_leastTime l dC dI cy a X.2.2.1 (this + 1) hT.2.1 M  hr16) (mw_cwV X 0 g_X4_132 hd_X3_leastTime ⟨rfl, rfl⟩ ⟨Nat.le_of_ble_eq_true rfl, Nat.le_of_ble_eq_true rfl⟩) rfl hl.1 rfl (Nat.le_of_ble_eq_true rfl) dX4_told_147 (fun H locs hG => ?_)
                      obtain rfl := Option.some.inj hf
                      exact mw_iret X hG dX4_told_150
                    · have hf := iten c14 hf
                      by_cases c17 : v1 = (10 : Int32)
                      · have hf := itep c17 hf
                        refine lv_tableIn (off := 150) (tgt := 151) hx hb dX4_told_1 (by rw [c17]; decide) (by rw [c17]; decide) (by rw [c17]; rfl) (by decide) ?_
                        refine lv_aload_n hx hb dX4_told_151 rfl (lv_at hl 0 rfl) ?_
                        refine gf_X4_30 X hG hT dX4_told_152 ?_
                        refine gf_X4_135 X hG hT.2.2.2.2.2.2.1 dX4_told_155 ?_
                        obtain rfl := Option.some.inj hf
                        exact mw_iret X hG dX4_told_158
                      · have hf := iten c17 hf
                        by_cases c18 : v1 = (11 : Int32)
                        · have hf := itep c18 hf
                          refine lv_tableIn (off := 158) (tgt := 159) hx hb dX4_told_1 (by rw [c18]; decide) (by rw [c18]; decide) (by rw [c18]; rfl) (by decide) ?_
                          refine lv_aload_n hx hb dX4_told_159 rfl (lv_at hl 0 rfl) ?_
                          refine gf_X4_10 X hG hT dX4_told_160 ?_
                          refine gf_X4_59 X hG hT.2.1 dX4_told_163 ?_
                          refine lv_aload_n hx hb dX4_told_166 rfl (lv_at hl 0 rfl) ?_
                          refine gf_X4_10 X hG hT dX4_told_167 ?_
                          refine gf_X4_93 X hG hT.2.1 dX4_told_170 ?_
                          obtain ⟨x19, hr20, hf⟩ := bd_some hf
                          refine mw_callVi (rest := []) X hG hT.2.1.2.1.1 rfl (c_X0_hasRingWithoutPromise l dC dI cy a X.2.2.1 (this + 1 + 1) hT.2.1.2.1 M (rd M (this + 1) 5) hr20) (mw_cwV X 1 g_X4_136 hd_X0_hasRingWithoutPromise ⟨rfl, rfl⟩ ⟨Nat.le_of_ble_eq_true rfl, Nat.le_of_ble_eq_true rfl⟩) rfl hl.1 rfl (Nat.le_of_ble_eq_true rfl) dX4_told_173 (fun H locs hG => ?_)
                          refine lv_if_eq (tgt := 183) hx hb dX4_told_176 (by decide) (fun c21 => ?_) (fun c21 => ?_)
                          · have hf := itep c21 hf
                            refine lv_iconst (v := 0) hx hb dX4_told_183 (by decide) ?_
                            exact w_X4_told_L184 X hT hf hG (lv_sub hl [0] rfl)
                          · have hf := iten c21 hf
                            refine lv_iconst (v := 1) hx hb dX4_told_179 (by decide) ?_
                            refine lv_goto (tgt := 184) hx hb dX4_told_180 (by decide) ?_
                            exact w_X4_told_L184 X hT hf hG (lv_sub hl [0] rfl)
                        · have hf := iten c18 hf
                          by_cases c22 : v1 = (12 : Int32)
                          · have hf := itep c22 hf
                            refine lv_tableIn (off := 184) (tgt := 185) hx hb dX4_told_1 (by rw [c22]; decide) (by rw [c22]; decide) (by rw [c22]; rfl) (by decide) ?_
                            refine lv_aload_n hx hb dX4_told_185 rfl (lv_at hl 0 rfl) ?_
                            refine gf_X4_10 X hG hT dX4_told_186 ?_
                            refine gf_X4_140 X hG hT.2.1 dX4_told_189 ?_
                            obtain rfl := Option.some.inj hf
                            exact mw_iret X hG dX4_told_192
                          · have hf := iten c22 hf
                            refine lv_tableOut (tgt := 193) hx hb dX4_told_1 (by have q0 : v1.toInt ≠ 0 := fun e => c1 (Int32.toInt_inj.mp (e.trans (by decide))); have q1 : v1.toInt ≠ 1 := fun e => c2 (Int32.toInt_inj.mp (e.trans (by decide))); have q2 : v1.toInt ≠ 2 := fun e => c3 (Int32.toInt_inj.mp (e.trans (by decide))); have q3 : v1.toInt ≠ 3 := fun e => c4 (Int32.toInt_inj.mp (e.trans (by decide))); have q4 : v1.toInt ≠ 4 := fun e => c7 (Int32.toInt_inj.mp (e.trans (by decide))); have q5 : v1.toInt ≠ 5 := fun e => c8 (Int32.toInt_inj.mp (e.trans (by decide))); have q6 : v1.toInt ≠ 6 := fun e => c9 (Int32.toInt_inj.mp (e.trans (by decide))); have q7 : v1.toInt ≠ 7 := fun e => c10 (Int32.toInt_inj.mp (e.trans (by decide))); have q8 : v1.toInt ≠ 8 := fun e => c11 (Int32.toInt_inj.mp (e.trans (by decide))); have q9 : v1.toInt ≠ 9 := fun e => c14 (Int32.toInt_inj.mp (e.trans (by decide))); have q10 : v1.toInt ≠ 10 := fun e => c17 (Int32.toInt_inj.mp (e.trans (by decide))); have q11 : v1.toInt ≠ 11 := fun e => c18 (Int32.toInt_inj.mp (e.trans (by decide))); have q12 : v1.toInt ≠ 12 := fun e => c22 (Int32.toInt_inj.mp (e.trans (by decide))); omega) (by decide) ?_
                            refine lv_ldc (v := -1000000002) hx hb hown (hts _ wd_ct_X4_42) dX4_told_193 ?_
                            obtain rfl := Option.some.inj hf
                            exact mw_iret X hG dX4_told_195
/-! X4_part -/
set_option maxHeartbeats 4000000 in
set_option maxRecDepth 100000 in
theorem w_X4_part_L166 {l : Launch} {dC : Nat → ClassId} {dI : Nat → Nat → Nat} {cy : Nat → ClassId} {a : Nat → Nat} {p : Program} {e : Env} {s : State} {m : MethodId} {args : Array Value} {below : List Frame} {meth : Method} {c : Code} (X : XU dC dI cy a p s m c args meth cX4_part 3 RX4 (some .int)) {M : Mem} {this : Nat} (hT : K4 this) {s0 : Int32} {o : Int32} {H : Heap} {locs : List Loc} {ls : Array Slot} (hf : f_X4_part_L166 M this s0 = some o) (hG : GU dC dI cy a s.heap M H locs) (hl : lv_has ls 3 [(0, .ref (a this))]) : W p l e ({ frames := 3, cells := 0, slots := 0, locals := 66 } : Room) s m args below meth c H locs 0 0 (MQ below (QUi dC dI cy a o M) args s 0 0 (AU a)) (F0 m 166 ls [.int s0]) := by
  have hx := X.1.1
  have hb := X.1.2.1
  have hown := X.1.2.2.2.1
  have hts := X.1.2.2.2.2
  rw [f_X4_part_L166] at hf
  obtain rfl := Option.some.inj hf
  exact mw_iret X hG dX4_part_166
set_option maxHeartbeats 4000000 in
set_option maxRecDepth 100000 in
theorem c_X4_part (l : Launch) (dC : Nat → ClassId) (dI : Nat → Nat → Nat) (cy : Nat → ClassId) (a : Nat → Nat) (ha : injU a) (this : Nat) (hT : K4 this) (M : Mem) (v1 : Int32) (v2 : Int32) {o : Int32} (hf : f_X4_part M this v1 v2 = some o) : Met l yX4_part (wsU yX4_part cX4_part 3 (some .int)) ({ frames := 3, cells := 0, slots := 0, locals := 66 } : Room) (PU dC dI cy a [.ref (a this), .int v1, .int v2] M) (QUi dC dI cy a o M) 0 0 (AU a) := by
  refine mw_met (by decide) ha (Nat.le_of_ble_eq_true rfl) ?_
  intro p e s m below meth c ls X hG hl
  have hl : lv_has ls 3 [(0, .ref (a this)), (1, .int v1), (2, .int v2)] := hl
  have X : XU dC dI cy a p s m c [.ref (a this), .int v1, .int v2].toArray meth cX4_part 3 RX4 (some .int) := X
  have hx := X.1.1
  have hb := X.1.2.1
  have hown := X.1.2.2.2.1
  have hts := X.1.2.2.2.2
  rw [f_X4_part] at hf
  refine lv_aload_n hx hb dX4_part_0 rfl (lv_at hl 0 rfl) ?_
  refine lv_iload_n hx hb dX4_part_1 rfl (lv_at hl 1 rfl) ?_
  obtain ⟨x1, hr2, hf⟩ := bd_some hf
  refine mw_callVi (rest := []) X hG hT.1 rfl (c_X4_isNoPart l dC dI cy a X.2.2.1 this hT M v1 hr2) (mw_cwV X 1 g_X4_143 hd_X4_isNoPart ⟨rfl, rfl⟩ ⟨Nat.le_of_ble_eq_true rfl, Nat.le_of_ble_eq_true rfl⟩) rfl hl.1 rfl (Nat.le_of_ble_eq_true rfl) dX4_part_2 (fun H locs hG => ?_)
  refine lv_if_eq (tgt := 11) hx hb dX4_part_5 (by decide) (fun c3 => ?_) (fun c3 => ?_)
  · have hf := itep c3 hf
    refine lv_iload_n hx hb dX4_part_11 rfl (lv_at hl 2 rfl) ?_
    by_cases c4 : v2 = (0 : Int32)
    · have hf := itep c4 hf
      refine lv_tableIn (off := 60) (tgt := 72) hx hb dX4_part_12 (by rw [c4]; decide) (by rw [c4]; decide) (by rw [c4]; rfl) (by decide) ?_
      refine lv_aload_n hx hb dX4_part_72 rfl (lv_at hl 0 rfl) ?_
      refine gf_X4_10 X hG hT dX4_part_73 ?_
      refine gf_X4_146 X hG hT.2.1 dX4_part_76 ?_
      refine lv_iload_n hx hb dX4_part_79 rfl (lv_at hl 1 rfl) ?_
      obtain ⟨hi5, hf⟩ := ck_some hf
      refine mw_iald X hG hT.2.1.2.2.2.1 hi5 dX4_part_80 ?_
      obtain rfl := Option.some.inj hf
      exact mw_iret X hG dX4_part_81
    · have hf := iten c4 hf
      by_cases c6 : v2 = (1 : Int32)
      · have hf := itep c6 hf
        refine lv_tableIn (off := 70) (tgt := 82) hx hb dX4_part_12 (by rw [c6]; decide) (by rw [c6]; decide) (by rw [c6]; rfl) (by decide) ?_
        refine lv_aload_n hx hb dX4_part_82 rfl (lv_at hl 0 rfl) ?_
        refine gf_X4_10 X hG hT dX4_part_83 ?_
        refine gf_X4_149 X hG hT.2.1 dX4_part_86 ?_
        refine lv_iload_n hx hb dX4_part_89 rfl (lv_at hl 1 rfl) ?_
        obtain ⟨hi7, hf⟩ := ck_some hf
        refine mw_iald X hG hT.2.1.2.2.2.2.1 hi7 dX4_part_90 ?_
        obtain rfl := Option.some.inj hf
        exact mw_iret X hG dX4_part_91
      · have hf := iten c6 hf
        by_cases c8 : v2 = (2 : Int32)
        · have hf := itep c8 hf
          refine lv_tableIn (off := 80) (tgt := 92) hx hb dX4_part_12 (by rw [c8]; decide) (by rw [c8]; decide) (by rw [c8]; rfl) (by decide) ?_
          refine lv_aload_n hx hb dX4_part_92 rfl (lv_at hl 0 rfl) ?_
          refine gf_X4_10 X hG hT dX4_part_93 ?_
          refine gf_X4_100 X hG hT.2.1 dX4_part_96 ?_
          refine lv_iload_n hx hb dX4_part_99 rfl (lv_at hl 1 rfl) ?_
          obtain ⟨hi9, hf⟩ := ck_some hf
          refine mw_iald X hG hT.2.1.2.2.2.2.2.1 hi9 dX4_part_100 ?_
          obtain rfl := Option.some.inj hf
          exact mw_iret X hG dX4_part_101
        · have hf := iten c8 hf
          by_cases c10 : v2 = (3 : Int32)
          · have hf := itep c10 hf
            refine lv_tableIn (off := 90) (tgt := 102) hx hb dX4_part_12 (by rw [c10]; decide) (by rw [c10]; decide) (by rw [c10]; rfl) (by decide) ?_
            refine lv_aload_n hx hb dX4_part_102 rfl (lv_at hl 0 rfl) ?_
            refine gf_X4_10 X hG hT dX4_part_103 ?_
            refine lv_iload_n hx hb dX4_part_106 rfl (lv_at hl 1 rfl) ?_
            obtain ⟨x11, hr12, hf⟩ := bd_some hf
            refine mw_callVi (rest := []) X hG hT.2.1.1 rfl (c_X3_safeOf l dC dI cy a X.2.2.1 (this + 1) hT.2.1 M v1 hr12) (mw_cwV X 1 g_X4_152 hd_X3_safeOf ⟨rfl, rfl⟩ ⟨Nat.le_of_ble_eq_true rfl, Nat.le_of_ble_eq_true rfl⟩) rfl hl.1 rfl (Nat.le_of_ble_eq_true rfl) dX4_part_107 (fun H locs hG => ?_)
            obtain rfl := Option.some.inj hf
            exact mw_iret X hG dX4_part_110
          · have hf := iten c10 hf
            by_cases c13 : v2 = (4 : Int32)
            · have hf := itep c13 hf
              refine lv_tableIn (off := 99) (tgt := 111) hx hb dX4_part_12 (by rw [c13]; decide) (by rw [c13]; decide) (by rw [c13]; rfl) (by decide) ?_
              refine lv_aload_n hx hb dX4_part_111 rfl (lv_at hl 0 rfl) ?_
              refine gf_X4_10 X hG hT dX4_part_112 ?_
              refine gf_X4_156 X hG hT.2.1 dX4_part_115 ?_
              refine lv_iload_n hx hb dX4_part_118 rfl (lv_at hl 1 rfl) ?_
              obtain ⟨hi14, hf⟩ := ck_some hf
              refine mw_aald0 X hG hT.2.1.2.2.1 hi14 dX4_part_119 ?_
              refine gf_X4_160 X hG (hT.2.1.2.2.2.2.2.2 _ (vin_lt hi14)) dX4_part_120 ?_
              obtain rfl := Option.some.inj hf
              exact mw_iret X hG dX4_part_123
            · have hf := iten c13 hf
              by_cases c15 : v2 = (5 : Int32)
              · have hf := itep c15 hf
                refine lv_tableIn (off := 112) (tgt := 124) hx hb dX4_part_12 (by rw [c15]; decide) (by rw [c15]; decide) (by rw [c15]; rfl) (by decide) ?_
                refine lv_aload_n hx hb dX4_part_124 rfl (lv_at hl 0 rfl) ?_
                refine gf_X4_10 X hG hT dX4_part_125 ?_
                refine gf_X4_156 X hG hT.2.1 dX4_part_128 ?_
                refine lv_iload_n hx hb dX4_part_131 rfl (lv_at hl 1 rfl) ?_
                obtain ⟨hi16, hf⟩ := ck_some hf
                refine mw_aald0 X hG hT.2.1.2.2.1 hi16 dX4_part_132 ?_
                obtain ⟨x17, hr18, hf⟩ := bd_some hf
                refine mw_callVi (rest := []) X hG (hT.2.1.2.2.2.2.2.2 _ (vin_lt hi16)).1 rfl (c_X2_firstTime l dC dI cy a X.2.2.1 (this + 1 + 9 + 4 + 4 * v1.toNatClampNeg) (hT.2.1.2.2.2.2.2.2 _ (vin_lt hi16)) M  hr18) (mw_cwV X 0 g_X4_163 hd_X2_firstTime ⟨rfl, rfl⟩ ⟨Nat.le_of_ble_eq_true rfl, Nat.le_of_ble_eq_true rfl⟩) rfl hl.1 rfl (Nat.le_of_ble_eq_true rfl) dX4_part_133 (fun H locs hG => ?_)
                obtain rfl := Option.some.inj hf
                exact mw_iret X hG dX4_part_136
              · have hf := iten c15 hf
                by_cases c19 : v2 = (6 : Int32)
                · have hf := itep c19 hf
                  refine lv_tableIn (off := 125) (tgt := 137) hx hb dX4_part_12 (by rw [c19]; decide) (by rw [c19]; decide) (by rw [c19]; rfl) (by decide) ?_
                  refine lv_aload_n hx hb dX4_part_137 rfl (lv_at hl 0 rfl) ?_
                  refine gf_X4_10 X hG hT dX4_part_138 ?_
                  refine gf_X4_156 X hG hT.2.1 dX4_part_141 ?_
                  refine lv_iload_n hx hb dX4_part_144 rfl (lv_at hl 1 rfl) ?_
                  obtain ⟨hi20, hf⟩ := ck_some hf
                  refine mw_aald0 X hG hT.2.1.2.2.1 hi20 dX4_part_145 ?_
                  obtain ⟨x21, hr22, hf⟩ := bd_some hf
                  refine mw_callVi (rest := []) X hG (hT.2.1.2.2.2.2.2.2 _ (vin_lt hi20)).1 rfl (c_X2_firstValue l dC dI cy a X.2.2.1 (this + 1 + 9 + 4 + 4 * v1.toNatClampNeg) (hT.2.1.2.2.2.2.2.2 _ (vin_lt hi20)) M  hr22) (mw_cwV X 0 g_X4_166 hd_X2_firstValue ⟨rfl, rfl⟩ ⟨Nat.le_of_ble_eq_true rfl, Nat.le_of_ble_eq_true rfl⟩) rfl hl.1 rfl (Nat.le_of_ble_eq_true rfl) dX4_part_146 (fun H locs hG => ?_)
                  obtain rfl := Option.some.inj hf
                  exact mw_iret X hG dX4_part_149
                · have hf := iten c19 hf
                  by_cases c23 : v2 = (7 : Int32)
                  · have hf := itep c23 hf
                    refine lv_tableIn (off := 138) (tgt := 150) hx hb dX4_part_12 (by rw [c23]; decide) (by rw [c23]; decide) (by rw [c23]; rfl) (by decide) ?_
                    refine lv_aload_n hx hb dX4_part_150 rfl (lv_at hl 0 rfl) ?_
                    refine gf_X4_10 X hG hT dX4_part_151 ?_
                    refine lv_iload_n hx hb dX4_part_154 rfl (lv_at hl 1 rfl) ?_
                    obtain ⟨x24, hr25, hf⟩ := bd_some hf
                    refine mw_callVi (rest := []) X hG hT.2.1.1 rfl (c_X3_mayWork l dC dI cy a X.2.2.1 (this + 1) hT.2.1 M v1 hr25) (mw_cwV X 1 g_X4_169 hd_X3_mayWork ⟨rfl, rfl⟩ ⟨Nat.le_of_ble_eq_true rfl, Nat.le_of_ble_eq_true rfl⟩) rfl hl.1 rfl (Nat.le_of_ble_eq_true rfl) dX4_part_155 (fun H locs hG => ?_)
                    refine lv_if_eq (tgt := 165) hx hb dX4_part_158 (by decide) (fun c26 => ?_) (fun c26 => ?_)
                    · have hf := itep c26 hf
                      refine lv_iconst (v := 0) hx hb dX4_part_165 (by decide) ?_
                      exact w_X4_part_L166 X hT hf hG (lv_sub hl [0] rfl)
                    · have hf := iten c26 hf
                      refine lv_iconst (v := 1) hx hb dX4_part_161 (by decide) ?_
                      refine lv_goto (tgt := 166) hx hb dX4_part_162 (by decide) ?_
                      exact w_X4_part_L166 X hT hf hG (lv_sub hl [0] rfl)
                  · have hf := iten c23 hf
                    by_cases c27 : v2 = (8 : Int32)
                    · have hf := itep c27 hf
                      refine lv_tableIn (off := 155) (tgt := 167) hx hb dX4_part_12 (by rw [c27]; decide) (by rw [c27]; decide) (by rw [c27]; rfl) (by decide) ?_
                      refine lv_aload_n hx hb dX4_part_167 rfl (lv_at hl 0 rfl) ?_
                      refine gf_X4_10 X hG hT dX4_part_168 ?_
                      refine lv_iload_n hx hb dX4_part_171 rfl (lv_at hl 1 rfl) ?_
                      obtain ⟨x28, hr29, hf⟩ := bd_some hf
                      refine mw_callVi (rest := []) X hG hT.2.1.1 rfl (c_X3_channelWaitedFor l dC dI cy a X.2.2.1 (this + 1) hT.2.1 M v1 hr29) (mw_cwV X 1 g_X4_172 hd_X3_channelWaitedFor ⟨rfl, rfl⟩ ⟨Nat.le_of_ble_eq_true rfl, Nat.le_of_ble_eq_true rfl⟩) rfl hl.1 rfl (Nat.le_of_ble_eq_true rfl) dX4_part_172 (fun H locs hG => ?_)
                      obtain rfl := Option.some.inj hf
                      exact mw_iret X hG dX4_part_175
                    · have hf := iten c27 hf
                      by_cases c30 : v2 = (9 : Int32)
                      · have hf := itep c30 hf
                        refine lv_tableIn (off := 164) (tgt := 176) hx hb dX4_part_12 (by rw [c30]; decide) (by rw [c30]; decide) (by rw [c30]; rfl) (by decide) ?_
                        refine lv_aload_n hx hb dX4_part_176 rfl (lv_at hl 0 rfl) ?_
                        refine gf_X4_10 X hG hT dX4_part_177 ?_
                        refine gf_X4_59 X hG hT.2.1 dX4_part_180 ?_
                        refine lv_iload_n hx hb dX4_part_183 rfl (lv_at hl 1 rfl) ?_
                        obtain ⟨x31, hr32, hf⟩ := bd_some hf
                        refine mw_callVi (rest := []) X hG hT.2.1.2.1.1 rfl (c_X0_countFrom l dC dI cy a X.2.2.1 (this + 1 + 1) hT.2.1.2.1 M v1 hr32) (mw_cwV X 1 g_X4_175 hd_X0_countFrom ⟨rfl, rfl⟩ ⟨Nat.le_of_ble_eq_true rfl, Nat.le_of_ble_eq_true rfl⟩) rfl hl.1 rfl (Nat.le_of_ble_eq_true rfl) dX4_part_184 (fun H locs hG => ?_)
                        obtain rfl := Option.some.inj hf
                        exact mw_iret X hG dX4_part_187
                      · have hf := iten c30 hf
                        by_cases c33 : v2 = (10 : Int32)
                        · have hf := itep c33 hf
                          refine lv_tableIn (off := 176) (tgt := 188) hx hb dX4_part_12 (by rw [c33]; decide) (by rw [c33]; decide) (by rw [c33]; rfl) (by decide) ?_
                          refine lv_aload_n hx hb dX4_part_188 rfl (lv_at hl 0 rfl) ?_
                          refine gf_X4_10 X hG hT dX4_part_189 ?_
                          refine gf_X4_59 X hG hT.2.1 dX4_part_192 ?_
                          refine lv_iload_n hx hb dX4_part_195 rfl (lv_at hl 1 rfl) ?_
                          obtain ⟨x34, hr35, hf⟩ := bd_some hf
                          refine mw_callVi (rest := []) X hG hT.2.1.2.1.1 rfl (c_X0_countTo l dC dI cy a X.2.2.1 (this + 1 + 1) hT.2.1.2.1 M v1 hr35) (mw_cwV X 1 g_X4_178 hd_X0_countTo ⟨rfl, rfl⟩ ⟨Nat.le_of_ble_eq_true rfl, Nat.le_of_ble_eq_true rfl⟩) rfl hl.1 rfl (Nat.le_of_ble_eq_true rfl) dX4_part_196 (fun H locs hG => ?_)
                          obtain rfl := Option.some.inj hf
                          exact mw_iret X hG dX4_part_199
                        · have hf := iten c33 hf
                          refine lv_tableOut (tgt := 200) hx hb dX4_part_12 (by have q0 : v2.toInt ≠ 0 := fun e => c4 (Int32.toInt_inj.mp (e.trans (by decide))); have q1 : v2.toInt ≠ 1 := fun e => c6 (Int32.toInt_inj.mp (e.trans (by decide))); have q2 : v2.toInt ≠ 2 := fun e => c8 (Int32.toInt_inj.mp (e.trans (by decide))); have q3 : v2.toInt ≠ 3 := fun e => c10 (Int32.toInt_inj.mp (e.trans (by decide))); have q4 : v2.toInt ≠ 4 := fun e => c13 (Int32.toInt_inj.mp (e.trans (by decide))); have q5 : v2.toInt ≠ 5 := fun e => c15 (Int32.toInt_inj.mp (e.trans (by decide))); have q6 : v2.toInt ≠ 6 := fun e => c19 (Int32.toInt_inj.mp (e.trans (by decide))); have q7 : v2.toInt ≠ 7 := fun e => c23 (Int32.toInt_inj.mp (e.trans (by decide))); have q8 : v2.toInt ≠ 8 := fun e => c27 (Int32.toInt_inj.mp (e.trans (by decide))); have q9 : v2.toInt ≠ 9 := fun e => c30 (Int32.toInt_inj.mp (e.trans (by decide))); have q10 : v2.toInt ≠ 10 := fun e => c33 (Int32.toInt_inj.mp (e.trans (by decide))); omega) (by decide) ?_
                          refine lv_ldc (v := -1000000002) hx hb hown (hts _ wd_ct_X4_42) dX4_part_200 ?_
                          obtain rfl := Option.some.inj hf
                          exact mw_iret X hG dX4_part_202
  · have hf := iten c3 hf
    refine lv_ldc (v := -1000000001) hx hb hown (hts _ wd_ct_X4_58) dX4_part_8 ?_
    obtain rfl := Option.some.inj hf
    exact mw_iret X hG dX4_part_10
/-! X4_channelOf -/
set_option maxHeartbeats 4000000 in
set_option maxRecDepth 100000 in
theorem w_X4_channelOf_L20 {l : Launch} {dC : Nat → ClassId} {dI : Nat → Nat → Nat} {cy : Nat → ClassId} {a : Nat → Nat} {p : Program} {e : Env} {s : State} {m : MethodId} {args : Array Value} {below : List Frame} {meth : Method} {c : Code} (X : XU dC dI cy a p s m c args meth cX4_channelOf 4 RX4 (some .int)) {M : Mem} {this : Nat} (hT : K4 this) {o : Int32} {H : Heap} {locs : List Loc} {ls : Array Slot} (hf : f_X4_channelOf_L20 M this = some o) (hG : GU dC dI cy a s.heap M H locs) (hl : lv_has ls 4 [(0, .ref (a this))]) : W p l e ({ frames := 0, cells := 0, slots := 0, locals := 0 } : Room) s m args below meth c H locs 0 0 (MQ below (QUi dC dI cy a o M) args s 0 0 (AU a)) (F0 m 20 ls []) := by
  have hx := X.1.1
  have hb := X.1.2.1
  have hown := X.1.2.2.2.1
  have hts := X.1.2.2.2.2
  rw [f_X4_channelOf_L20] at hf
  refine lv_ldc (v := -1000000001) hx hb hown (hts _ wd_ct_X4_58) dX4_channelOf_20 ?_
  obtain rfl := Option.some.inj hf
  exact mw_iret X hG dX4_channelOf_22
set_option maxHeartbeats 4000000 in
set_option maxRecDepth 100000 in
theorem c_X4_channelOf (l : Launch) (dC : Nat → ClassId) (dI : Nat → Nat → Nat) (cy : Nat → ClassId) (a : Nat → Nat) (ha : injU a) (this : Nat) (hT : K4 this) (M : Mem) (v1 : Int32) (v2 : Int32) {o : Int32} (hf : f_X4_channelOf M this v1 v2 = some o) : Met l yX4_channelOf (wsU yX4_channelOf cX4_channelOf 4 (some .int)) ({ frames := 0, cells := 0, slots := 0, locals := 0 } : Room) (PU dC dI cy a [.ref (a this), .int v1, .int v2] M) (QUi dC dI cy a o M) 0 0 (AU a) := by
  refine mw_met (by decide) ha (Nat.le_of_ble_eq_true rfl) ?_
  intro p e s m below meth c ls X hG hl
  have hl : lv_has ls 4 [(0, .ref (a this)), (1, .int v1), (2, .int v2)] := hl
  have X : XU dC dI cy a p s m c [.ref (a this), .int v1, .int v2].toArray meth cX4_channelOf 4 RX4 (some .int) := X
  have hx := X.1.1
  have hb := X.1.2.1
  have hown := X.1.2.2.2.1
  have hts := X.1.2.2.2.2
  rw [f_X4_channelOf] at hf
  refine lv_aload_n hx hb dX4_channelOf_0 rfl (lv_at hl 0 rfl) ?_
  refine gf_X4_10 X hG hT dX4_channelOf_1 ?_
  refine gf_X4_59 X hG hT.2.1 dX4_channelOf_4 ?_
  refine lv_astore_n (lv' := [(3, .ref (a (this + 1 + 1))), (0, .ref (a this)), (1, .int v1), (2, .int v2)]) hx hb dX4_channelOf_7 rfl hl (by decide) rfl (fun ls hl => ?_)
  refine lv_iload_n hx hb dX4_channelOf_8 rfl (lv_at hl 2 rfl) ?_
  refine lv_if_lt (tgt := 20) hx hb dX4_channelOf_9 (by decide) (fun c1 => ?_) (fun c1 => ?_)
  · have hf := itep c1 hf
    exact w_X4_channelOf_L20 X hT hf hG (lv_sub hl [1] rfl)
  · have hf := iten c1 hf
    refine lv_iload_n hx hb dX4_channelOf_12 rfl (lv_at hl 2 rfl) ?_
    refine lv_aload_n hx hb dX4_channelOf_13 rfl (lv_at hl 0 rfl) ?_
    refine gf_X4_74 X hG hT.2.1.2.1 dX4_channelOf_14 ?_
    refine lv_icmp_lt (tgt := 23) hx hb dX4_channelOf_17 (by decide) (fun c2 => ?_) (fun c2 => ?_)
    · have hf := itep c2 hf
      refine lv_iload_n hx hb dX4_channelOf_23 rfl (lv_at hl 3 rfl) ?_
      by_cases c3 : v2 = (0 : Int32)
      · have hf := itep c3 hf
        refine lv_tableIn (off := 44) (tgt := 68) hx hb dX4_channelOf_24 (by rw [c3]; decide) (by rw [c3]; decide) (by rw [c3]; rfl) (by decide) ?_
        refine lv_aload_n hx hb dX4_channelOf_68 rfl (lv_at hl 0 rfl) ?_
        refine gf_X4_181 X hG hT.2.1.2.1 dX4_channelOf_69 ?_
        refine lv_iload_n hx hb dX4_channelOf_72 rfl (lv_at hl 2 rfl) ?_
        obtain ⟨hi4, hf⟩ := ck_some hf
        refine mw_iald X hG hT.2.1.2.1.2.1 hi4 dX4_channelOf_73 ?_
        obtain rfl := Option.some.inj hf
        exact mw_iret X hG dX4_channelOf_74
      · have hf := iten c3 hf
        by_cases c5 : v2 = (1 : Int32)
        · have hf := itep c5 hf
          refine lv_tableIn (off := 51) (tgt := 75) hx hb dX4_channelOf_24 (by rw [c5]; decide) (by rw [c5]; decide) (by rw [c5]; rfl) (by decide) ?_
          refine lv_aload_n hx hb dX4_channelOf_75 rfl (lv_at hl 0 rfl) ?_
          refine gf_X4_184 X hG hT.2.1.2.1 dX4_channelOf_76 ?_
          refine lv_iload_n hx hb dX4_channelOf_79 rfl (lv_at hl 2 rfl) ?_
          obtain ⟨hi6, hf⟩ := ck_some hf
          refine mw_iald X hG hT.2.1.2.1.2.2.1 hi6 dX4_channelOf_80 ?_
          obtain rfl := Option.some.inj hf
          exact mw_iret X hG dX4_channelOf_81
        · have hf := iten c5 hf
          by_cases c7 : v2 = (2 : Int32)
          · have hf := itep c7 hf
            refine lv_tableIn (off := 58) (tgt := 82) hx hb dX4_channelOf_24 (by rw [c7]; decide) (by rw [c7]; decide) (by rw [c7]; rfl) (by decide) ?_
            refine lv_aload_n hx hb dX4_channelOf_82 rfl (lv_at hl 0 rfl) ?_
            refine gf_X4_187 X hG hT.2.1.2.1 dX4_channelOf_83 ?_
            refine lv_iload_n hx hb dX4_channelOf_86 rfl (lv_at hl 2 rfl) ?_
            obtain ⟨hi8, hf⟩ := ck_some hf
            refine mw_iald X hG hT.2.1.2.1.2.2.2.1 hi8 dX4_channelOf_87 ?_
            obtain rfl := Option.some.inj hf
            exact mw_iret X hG dX4_channelOf_88
          · have hf := iten c7 hf
            by_cases c9 : v2 = (3 : Int32)
            · have hf := itep c9 hf
              refine lv_tableIn (off := 65) (tgt := 89) hx hb dX4_channelOf_24 (by rw [c9]; decide) (by rw [c9]; decide) (by rw [c9]; rfl) (by decide) ?_
              refine lv_aload_n hx hb dX4_channelOf_89 rfl (lv_at hl 0 rfl) ?_
              refine gf_X4_190 X hG hT.2.1.2.1 dX4_channelOf_90 ?_
              refine lv_iload_n hx hb dX4_channelOf_93 rfl (lv_at hl 2 rfl) ?_
              obtain ⟨hi10, hf⟩ := ck_some hf
              refine mw_iald X hG hT.2.1.2.1.2.2.2.2.1 hi10 dX4_channelOf_94 ?_
              obtain rfl := Option.some.inj hf
              exact mw_iret X hG dX4_channelOf_95
            · have hf := iten c9 hf
              by_cases c11 : v2 = (4 : Int32)
              · have hf := itep c11 hf
                refine lv_tableIn (off := 72) (tgt := 96) hx hb dX4_channelOf_24 (by rw [c11]; decide) (by rw [c11]; decide) (by rw [c11]; rfl) (by decide) ?_
                refine lv_aload_n hx hb dX4_channelOf_96 rfl (lv_at hl 0 rfl) ?_
                refine gf_X4_193 X hG hT.2.1.2.1 dX4_channelOf_97 ?_
                refine lv_iload_n hx hb dX4_channelOf_100 rfl (lv_at hl 2 rfl) ?_
                obtain ⟨hi12, hf⟩ := ck_some hf
                refine mw_iald X hG hT.2.1.2.1.2.2.2.2.2.1 hi12 dX4_channelOf_101 ?_
                obtain rfl := Option.some.inj hf
                exact mw_iret X hG dX4_channelOf_102
              · have hf := iten c11 hf
                by_cases c13 : v2 = (5 : Int32)
                · have hf := itep c13 hf
                  refine lv_tableIn (off := 79) (tgt := 103) hx hb dX4_channelOf_24 (by rw [c13]; decide) (by rw [c13]; decide) (by rw [c13]; rfl) (by decide) ?_
                  refine lv_aload_n hx hb dX4_channelOf_103 rfl (lv_at hl 0 rfl) ?_
                  refine gf_X4_196 X hG hT.2.1.2.1 dX4_channelOf_104 ?_
                  refine lv_iload_n hx hb dX4_channelOf_107 rfl (lv_at hl 2 rfl) ?_
                  obtain ⟨hi14, hf⟩ := ck_some hf
                  refine mw_iald X hG hT.2.1.2.1.2.2.2.2.2.2.1 hi14 dX4_channelOf_108 ?_
                  obtain rfl := Option.some.inj hf
                  exact mw_iret X hG dX4_channelOf_109
                · have hf := iten c13 hf
                  by_cases c15 : v2 = (6 : Int32)
                  · have hf := itep c15 hf
                    refine lv_tableIn (off := 86) (tgt := 110) hx hb dX4_channelOf_24 (by rw [c15]; decide) (by rw [c15]; decide) (by rw [c15]; rfl) (by decide) ?_
                    refine lv_aload_n hx hb dX4_channelOf_110 rfl (lv_at hl 0 rfl) ?_
                    refine gf_X4_199 X hG hT.2.1.2.1 dX4_channelOf_111 ?_
                    refine lv_iload_n hx hb dX4_channelOf_114 rfl (lv_at hl 2 rfl) ?_
                    obtain ⟨hi16, hf⟩ := ck_some hf
                    refine mw_iald X hG hT.2.1.2.1.2.2.2.2.2.2.2 hi16 dX4_channelOf_115 ?_
                    obtain rfl := Option.some.inj hf
                    exact mw_iret X hG dX4_channelOf_116
                  · have hf := iten c15 hf
                    refine lv_tableOut (tgt := 117) hx hb dX4_channelOf_24 (by have q0 : v2.toInt ≠ 0 := fun e => c3 (Int32.toInt_inj.mp (e.trans (by decide))); have q1 : v2.toInt ≠ 1 := fun e => c5 (Int32.toInt_inj.mp (e.trans (by decide))); have q2 : v2.toInt ≠ 2 := fun e => c7 (Int32.toInt_inj.mp (e.trans (by decide))); have q3 : v2.toInt ≠ 3 := fun e => c9 (Int32.toInt_inj.mp (e.trans (by decide))); have q4 : v2.toInt ≠ 4 := fun e => c11 (Int32.toInt_inj.mp (e.trans (by decide))); have q5 : v2.toInt ≠ 5 := fun e => c13 (Int32.toInt_inj.mp (e.trans (by decide))); have q6 : v2.toInt ≠ 6 := fun e => c15 (Int32.toInt_inj.mp (e.trans (by decide))); omega) (by decide) ?_
                    refine lv_ldc (v := -1000000002) hx hb hown (hts _ wd_ct_X4_42) dX4_channelOf_117 ?_
                    obtain rfl := Option.some.inj hf
                    exact mw_iret X hG dX4_channelOf_119
    · have hf := iten c2 hf
      exact w_X4_channelOf_L20 X hT hf hG (lv_sub hl [1] rfl)
/-! X4_between -/
set_option maxHeartbeats 4000000 in
set_option maxRecDepth 100000 in
theorem c_X4_between (l : Launch) (dC : Nat → ClassId) (dI : Nat → Nat → Nat) (cy : Nat → ClassId) (a : Nat → Nat) (ha : injU a) (this : Nat) (hT : K4 this) (M : Mem) (v1 : Int32) (v2 : Int32) {o : Int32} (hf : f_X4_between M this v1 v2 = some o) : Met l yX4_between (wsU yX4_between cX4_between 3 (some .int)) ({ frames := 2, cells := 0, slots := 0, locals := 43 } : Room) (PU dC dI cy a [.ref (a this), .int v1, .int v2] M) (QUi dC dI cy a o M) 0 0 (AU a) := by
  refine mw_met (by decide) ha (Nat.le_of_ble_eq_true rfl) ?_
  intro p e s m below meth c ls X hG hl
  have hl : lv_has ls 3 [(0, .ref (a this)), (1, .int v1), (2, .int v2)] := hl
  have X : XU dC dI cy a p s m c [.ref (a this), .int v1, .int v2].toArray meth cX4_between 3 RX4 (some .int) := X
  have hx := X.1.1
  have hb := X.1.2.1
  have hown := X.1.2.2.2.1
  have hts := X.1.2.2.2.2
  rw [f_X4_between] at hf
  refine lv_aload_n hx hb dX4_between_0 rfl (lv_at hl 0 rfl) ?_
  refine lv_iload_n hx hb dX4_between_1 rfl (lv_at hl 1 rfl) ?_
  refine lv_iload_n hx hb dX4_between_2 rfl (lv_at hl 2 rfl) ?_
  obtain ⟨x1, hr2, hf⟩ := bd_some hf
  refine mw_callVi (rest := []) X hG hT.1 rfl (c_X4_areNotTwoParts l dC dI cy a X.2.2.1 this hT M v1 v2 hr2) (mw_cwV X 2 g_X4_54 hd_X4_areNotTwoParts ⟨rfl, rfl⟩ ⟨Nat.le_of_ble_eq_true rfl, Nat.le_of_ble_eq_true rfl⟩) rfl hl.1 rfl (Nat.le_of_ble_eq_true rfl) dX4_between_3 (fun H locs hG => ?_)
  refine lv_if_eq (tgt := 12) hx hb dX4_between_6 (by decide) (fun c3 => ?_) (fun c3 => ?_)
  · have hf := itep c3 hf
    refine lv_aload_n hx hb dX4_between_12 rfl (lv_at hl 0 rfl) ?_
    refine gf_X4_10 X hG hT dX4_between_13 ?_
    refine gf_X4_59 X hG hT.2.1 dX4_between_16 ?_
    refine lv_iload_n hx hb dX4_between_19 rfl (lv_at hl 1 rfl) ?_
    refine lv_iload_n hx hb dX4_between_20 rfl (lv_at hl 2 rfl) ?_
    obtain ⟨x4, hr5, hf⟩ := bd_some hf
    refine mw_callVi (rest := []) X hG hT.2.1.2.1.1 rfl (c_X0_find l dC dI cy a X.2.2.1 (this + 1 + 1) hT.2.1.2.1 M v1 v2 hr5) (mw_cwV X 2 g_X4_63 hd_X0_find ⟨rfl, rfl⟩ ⟨Nat.le_of_ble_eq_true rfl, Nat.le_of_ble_eq_true rfl⟩) rfl hl.1 rfl (Nat.le_of_ble_eq_true rfl) dX4_between_21 (fun H locs hG => ?_)
    obtain rfl := Option.some.inj hf
    exact mw_iret X hG dX4_between_24
  · have hf := iten c3 hf
    refine lv_ldc (v := -1000000001) hx hb hown (hts _ wd_ct_X4_58) dX4_between_9 ?_
    obtain rfl := Option.some.inj hf
    exact mw_iret X hG dX4_between_11
/-! X4_record -/
set_option maxHeartbeats 4000000 in
set_option maxRecDepth 100000 in
theorem w_X4_record_L13 {l : Launch} {dC : Nat → ClassId} {dI : Nat → Nat → Nat} {cy : Nat → ClassId} {a : Nat → Nat} {p : Program} {e : Env} {s : State} {m : MethodId} {args : Array Value} {below : List Frame} {meth : Method} {c : Code} (X : XU dC dI cy a p s m c args meth cX4_record 3 RX4 (some .int)) {M : Mem} {this : Nat} (hT : K4 this) {o : Int32} {H : Heap} {locs : List Loc} {ls : Array Slot} (hf : f_X4_record_L13 M this = some o) (hG : GU dC dI cy a s.heap M H locs) (hl : lv_has ls 3 [(0, .ref (a this))]) : W p l e ({ frames := 1, cells := 0, slots := 0, locals := 22 } : Room) s m args below meth c H locs 0 0 (MQ below (QUi dC dI cy a o M) args s 0 0 (AU a)) (F0 m 13 ls []) := by
  have hx := X.1.1
  have hb := X.1.2.1
  have hown := X.1.2.2.2.1
  have hts := X.1.2.2.2.2
  rw [f_X4_record_L13] at hf
  refine lv_ldc (v := -1000000002) hx hb hown (hts _ wd_ct_X4_42) dX4_record_13 ?_
  obtain rfl := Option.some.inj hf
  exact mw_iret X hG dX4_record_15
set_option maxHeartbeats 4000000 in
set_option maxRecDepth 100000 in
theorem c_X4_record (l : Launch) (dC : Nat → ClassId) (dI : Nat → Nat → Nat) (cy : Nat → ClassId) (a : Nat → Nat) (ha : injU a) (this : Nat) (hT : K4 this) (M : Mem) (v1 : Int32) (v2 : Int32) {o : Int32} (hf : f_X4_record M this v1 v2 = some o) : Met l yX4_record (wsU yX4_record cX4_record 3 (some .int)) ({ frames := 1, cells := 0, slots := 0, locals := 22 } : Room) (PU dC dI cy a [.ref (a this), .int v1, .int v2] M) (QUi dC dI cy a o M) 0 0 (AU a) := by
  refine mw_met (by decide) ha (Nat.le_of_ble_eq_true rfl) ?_
  intro p e s m below meth c ls X hG hl
  have hl : lv_has ls 3 [(0, .ref (a this)), (1, .int v1), (2, .int v2)] := hl
  have X : XU dC dI cy a p s m c [.ref (a this), .int v1, .int v2].toArray meth cX4_record 3 RX4 (some .int) := X
  have hx := X.1.1
  have hb := X.1.2.1
  have hown := X.1.2.2.2.1
  have hts := X.1.2.2.2.2
  rw [f_X4_record] at hf
  refine lv_iload_n hx hb dX4_record_0 rfl (lv_at hl 1 rfl) ?_
  refine lv_if_lt (tgt := 13) hx hb dX4_record_1 (by decide) (fun c1 => ?_) (fun c1 => ?_)
  · have hf := itep c1 hf
    exact w_X4_record_L13 X hT hf hG (lv_sub hl [0] rfl)
  · have hf := iten c1 hf
    refine lv_iload_n hx hb dX4_record_4 rfl (lv_at hl 2 rfl) ?_
    refine lv_iconst (v := 0) hx hb dX4_record_5 (by decide) ?_
    refine lv_iconst (v := 3) hx hb dX4_record_6 (by decide) ?_
    obtain ⟨x2, hr3, hf⟩ := bd_some hf
    refine mw_callSi (rest := []) X hG (c_X4_isOutside l dC dI cy a X.2.2.1  M v2 (0 : Int32) (3 : Int32) hr3) (mw_cwS X 3 g_X4_38 hd_X4_isOutside ⟨rfl, rfl⟩ ⟨Nat.le_of_ble_eq_true rfl, Nat.le_of_ble_eq_true rfl⟩) rfl hl.1 rfl (Nat.le_of_ble_eq_true rfl) dX4_record_7 (fun H locs hG => ?_)
    refine lv_if_eq (tgt := 16) hx hb dX4_record_10 (by decide) (fun c4 => ?_) (fun c4 => ?_)
    · have hf := itep c4 hf
      refine lv_iload_n hx hb dX4_record_16 rfl (lv_at hl 1 rfl) ?_
      refine lv_aload_n hx hb dX4_record_17 rfl (lv_at hl 0 rfl) ?_
      refine gf_X4_30 X hG hT dX4_record_18 ?_
      refine gf_X4_135 X hG hT.2.2.2.2.2.2.1 dX4_record_21 ?_
      refine lv_icmp_lt (tgt := 29) hx hb dX4_record_24 (by decide) (fun c5 => ?_) (fun c5 => ?_)
      · have hf := itep c5 hf
        refine lv_iload_n hx hb dX4_record_29 rfl (lv_at hl 2 rfl) ?_
        by_cases c6 : v2 = (0 : Int32)
        · have hf := itep c6 hf
          refine lv_tableIn (off := 26) (tgt := 56) hx hb dX4_record_30 (by rw [c6]; decide) (by rw [c6]; decide) (by rw [c6]; rfl) (by decide) ?_
          refine lv_aload_n hx hb dX4_record_56 rfl (lv_at hl 0 rfl) ?_
          refine gf_X4_30 X hG hT dX4_record_57 ?_
          refine gf_X4_202 X hG hT.2.2.2.2.2.2.1 dX4_record_60 ?_
          refine lv_iload_n hx hb dX4_record_63 rfl (lv_at hl 1 rfl) ?_
          obtain ⟨hi7, hf⟩ := ck_some hf
          refine mw_iald X hG hT.2.2.2.2.2.2.1.2.1 hi7 dX4_record_64 ?_
          obtain rfl := Option.some.inj hf
          exact mw_iret X hG dX4_record_65
        · have hf := iten c6 hf
          by_cases c8 : v2 = (1 : Int32)
          · have hf := itep c8 hf
            refine lv_tableIn (off := 36) (tgt := 66) hx hb dX4_record_30 (by rw [c8]; decide) (by rw [c8]; decide) (by rw [c8]; rfl) (by decide) ?_
            refine lv_aload_n hx hb dX4_record_66 rfl (lv_at hl 0 rfl) ?_
            refine gf_X4_30 X hG hT dX4_record_67 ?_
            refine gf_X4_205 X hG hT.2.2.2.2.2.2.1 dX4_record_70 ?_
            refine lv_iload_n hx hb dX4_record_73 rfl (lv_at hl 1 rfl) ?_
            obtain ⟨hi9, hf⟩ := ck_some hf
            refine mw_iald X hG hT.2.2.2.2.2.2.1.2.2.1 hi9 dX4_record_74 ?_
            obtain rfl := Option.some.inj hf
            exact mw_iret X hG dX4_record_75
          · have hf := iten c8 hf
            by_cases c10 : v2 = (2 : Int32)
            · have hf := itep c10 hf
              refine lv_tableIn (off := 46) (tgt := 76) hx hb dX4_record_30 (by rw [c10]; decide) (by rw [c10]; decide) (by rw [c10]; rfl) (by decide) ?_
              refine lv_aload_n hx hb dX4_record_76 rfl (lv_at hl 0 rfl) ?_
              refine gf_X4_30 X hG hT dX4_record_77 ?_
              refine gf_X4_208 X hG hT.2.2.2.2.2.2.1 dX4_record_80 ?_
              refine lv_iload_n hx hb dX4_record_83 rfl (lv_at hl 1 rfl) ?_
              obtain ⟨hi11, hf⟩ := ck_some hf
              refine mw_iald X hG hT.2.2.2.2.2.2.1.2.2.2.1 hi11 dX4_record_84 ?_
              obtain rfl := Option.some.inj hf
              exact mw_iret X hG dX4_record_85
            · have hf := iten c10 hf
              refine lv_tableOut (tgt := 86) hx hb dX4_record_30 (by have q0 : v2.toInt ≠ 0 := fun e => c6 (Int32.toInt_inj.mp (e.trans (by decide))); have q1 : v2.toInt ≠ 1 := fun e => c8 (Int32.toInt_inj.mp (e.trans (by decide))); have q2 : v2.toInt ≠ 2 := fun e => c10 (Int32.toInt_inj.mp (e.trans (by decide))); omega) (by decide) ?_
              refine lv_aload_n hx hb dX4_record_86 rfl (lv_at hl 0 rfl) ?_
              refine gf_X4_30 X hG hT dX4_record_87 ?_
              refine gf_X4_211 X hG hT.2.2.2.2.2.2.1 dX4_record_90 ?_
              refine lv_iload_n hx hb dX4_record_93 rfl (lv_at hl 1 rfl) ?_
              obtain ⟨hi12, hf⟩ := ck_some hf
              refine mw_iald X hG hT.2.2.2.2.2.2.1.2.2.2.2 hi12 dX4_record_94 ?_
              obtain rfl := Option.some.inj hf
              exact mw_iret X hG dX4_record_95
      · have hf := iten c5 hf
        refine lv_iconst (v := -1) hx hb dX4_record_27 (by decide) ?_
        obtain rfl := Option.some.inj hf
        exact mw_iret X hG dX4_record_28
    · have hf := iten c4 hf
      exact w_X4_record_L13 X hT hf hG (lv_sub hl [0] rfl)
/-! X4_leastPromisesRound -/
set_option maxHeartbeats 4000000 in
set_option maxRecDepth 100000 in
theorem w_X4_leastPromisesRound_L90 {l : Launch} {dC : Nat → ClassId} {dI : Nat → Nat → Nat} {cy : Nat → ClassId} {a : Nat → Nat} {p : Program} {e : Env} {s : State} {m : MethodId} {args : Array Value} {below : List Frame} {meth : Method} {c : Code} (X : XU dC dI cy a p s m c args meth cX4_leastPromisesRound 8 RX4 (some .int)) {M : Mem} {this : Nat} (hT : K4 this) {v1 : Int32} {v3 : Int32} {v4 : Int32} {v6 : Int32} {s0 : Int32} {o : (Int32 × Mem)} {k32 : Mem → Int32 → Option (Int32 × Mem)} (hk32 : ∀ (M : Mem) (v3 : Int32) (H : Heap) (locs : List Loc) (ls : Array Slot), k32 M v3 = some o → GU dC dI cy a s.heap M H locs → lv_has ls 8 [(0, .ref (a this)), (1, .int v1), (2, .ref (a (this + 1 + 1))), (3, .int v3)] → W p l e ({ frames := 1, cells := 0, slots := 0, locals := 40 } : Room) s m args below meth c H locs 0 0 (MQ below (QUi dC dI cy a o.1 o.2) args s 0 0 (AU a)) (F0 m 32 ls [])) {k46 : Mem → Int32 → Option (Int32 × Mem)} (hk46 : ∀ (M : Mem) (v4 : Int32) (H : Heap) (locs : List Loc) (ls : Array Slot), k46 M v4 = some o → GU dC dI cy a s.heap M H locs → lv_has ls 8 [(0, .ref (a this)), (1, .int v1), (2, .ref (a (this + 1 + 1))), (3, .int v3), (4, .int v4)] → W p l e ({ frames := 1, cells := 0, slots := 0, locals := 40 } : Room) s m args below meth c H locs 0 0 (MQ below (QUi dC dI cy a o.1 o.2) args s 0 0 (AU a)) (F0 m 46 ls [])) {H : Heap} {locs : List Loc} {ls : Array Slot} (hf : f_X4_leastPromisesRound_L90 k32 k46 M this v1 v3 v4 v6 s0 = some o) (hG : GU dC dI cy a s.heap M H locs) (hl : lv_has ls 8 [(0, .ref (a this)), (1, .int v1), (2, .ref (a (this + 1 + 1))), (3, .int v3), (4, .int v4), (6, .int v6)]) : W p l e ({ frames := 1, cells := 0, slots := 0, locals := 40 } : Room) s m args below meth c H locs 0 0 (MQ below (QUi dC dI cy a o.1 o.2) args s 0 0 (AU a)) (F0 m 90 ls [.int s0]) := by
  have hx := X.1.1
  have hb := X.1.2.1
  have hown := X.1.2.2.2.1
  have hts := X.1.2.2.2.2
  rw [f_X4_leastPromisesRound_L90] at hf
  refine lv_istore (lv' := [(7, .int s0), (0, .ref (a this)), (1, .int v1), (2, .ref (a (this + 1 + 1))), (3, .int v3), (4, .int v4), (6, .int v6)]) hx hb dX4_leastPromisesRound_90 hl (by decide) rfl (fun ls hl => ?_)
  refine lv_aload_n hx hb dX4_leastPromisesRound_92 rfl (lv_at hl 1 rfl) ?_
  refine gf_X4_34 X hG hT dX4_leastPromisesRound_93 ?_
  refine lv_iload hx hb dX4_leastPromisesRound_96 (lv_at hl 6 rfl) ?_
  refine lv_aload_n hx hb dX4_leastPromisesRound_98 rfl (lv_at hl 1 rfl) ?_
  refine gf_X4_34 X hG hT dX4_leastPromisesRound_99 ?_
  refine lv_iload hx hb dX4_leastPromisesRound_102 (lv_at hl 6 rfl) ?_
  obtain ⟨hi1, hf⟩ := ck_some hf
  refine mw_iald X hG hT.2.2.2.2.2.2.2 hi1 dX4_leastPromisesRound_104 ?_
  refine lv_iload hx hb dX4_leastPromisesRound_105 (lv_at hl 0 rfl) ?_
  refine lv_aload_n hx hb dX4_leastPromisesRound_107 rfl (lv_at hl 3 rfl) ?_
  refine gf_X4_187 X hG hT.2.1.2.1 dX4_leastPromisesRound_108 ?_
  refine lv_iload hx hb dX4_leastPromisesRound_111 (lv_at hl 5 rfl) ?_
  obtain ⟨hi2, hf⟩ := ck_some hf
  refine mw_iald X hG hT.2.1.2.1.2.2.2.1 hi2 dX4_leastPromisesRound_113 ?_
  refine lv_iadd hx hb dX4_leastPromisesRound_114 ?_
  refine va_mmin hx hb (X.1.2.2.1.trans hl.1.symm) hown (hts _ wd_ml_X4_253) (hts _ wd_st_Lib_Math_min_name) (hts _ wd_ini_java_lang_Math) (hts _ wd_co_Lib_Math_min_name) (Nat.le_of_ble_eq_true rfl) (Nat.le_of_ble_eq_true rfl) (Nat.zero_le _) (Nat.zero_le _) dX4_leastPromisesRound_115 ?_
  obtain ⟨hi3, hf⟩ := ck_some hf
  refine mw_iast X hG hT.2.2.2.2.2.2.2 hi3 dX4_leastPromisesRound_118 (fun M4 H locs eM4 hG => ?_)
  have hf := nm_of eM4 hf
  obtain ⟨x5, ex5⟩ : ∃ y : Int32, y = v4 + (1 : Int32) := ⟨_, rfl⟩
  have hf := nm_of ex5 hf
  refine lv_iinc (v := x5) (lv' := [(4, .int x5), (7, .int s0), (0, .ref (a this)), (1, .int v1), (2, .ref (a (this + 1 + 1))), (3, .int v3), (6, .int v6)]) hx hb dX4_leastPromisesRound_119 hl (k := 5) rfl (by rw [ex5]; rfl) (by decide) rfl (fun ls hl => ?_)
  refine lv_goto (tgt := 46) hx hb dX4_leastPromisesRound_122 (by decide) ?_
  exact hk46 _ _ _ _ _ hf hG (lv_sub hl [2, 3, 4, 5, 0] rfl)
set_option maxHeartbeats 4000000 in
set_option maxRecDepth 100000 in
theorem w_X4_leastPromisesRound_L125 {l : Launch} {dC : Nat → ClassId} {dI : Nat → Nat → Nat} {cy : Nat → ClassId} {a : Nat → Nat} {p : Program} {e : Env} {s : State} {m : MethodId} {args : Array Value} {below : List Frame} {meth : Method} {c : Code} (X : XU dC dI cy a p s m c args meth cX4_leastPromisesRound 8 RX4 (some .int)) {M : Mem} {this : Nat} (hT : K4 this) {v1 : Int32} {v3 : Int32} {o : (Int32 × Mem)} {k32 : Mem → Int32 → Option (Int32 × Mem)} (hk32 : ∀ (M : Mem) (v3 : Int32) (H : Heap) (locs : List Loc) (ls : Array Slot), k32 M v3 = some o → GU dC dI cy a s.heap M H locs → lv_has ls 8 [(0, .ref (a this)), (1, .int v1), (2, .ref (a (this + 1 + 1))), (3, .int v3)] → W p l e ({ frames := 1, cells := 0, slots := 0, locals := 40 } : Room) s m args below meth c H locs 0 0 (MQ below (QUi dC dI cy a o.1 o.2) args s 0 0 (AU a)) (F0 m 32 ls [])) {H : Heap} {locs : List Loc} {ls : Array Slot} (hf : f_X4_leastPromisesRound_L125 k32 M this v1 v3 = some o) (hG : GU dC dI cy a s.heap M H locs) (hl : lv_has ls 8 [(0, .ref (a this)), (1, .int v1), (2, .ref (a (this + 1 + 1))), (3, .int v3)]) : W p l e ({ frames := 1, cells := 0, slots := 0, locals := 40 } : Room) s m args below meth c H locs 0 0 (MQ below (QUi dC dI cy a o.1 o.2) args s 0 0 (AU a)) (F0 m 125 ls []) := by
  have hx := X.1.1
  have hb := X.1.2.1
  have hown := X.1.2.2.2.1
  have hts := X.1.2.2.2.2
  rw [f_X4_leastPromisesRound_L125] at hf
  obtain ⟨x1, ex1⟩ : ∃ y : Int32, y = v3 + (1 : Int32) := ⟨_, rfl⟩
  have hf := nm_of ex1 hf
  refine lv_iinc (v := x1) (lv' := [(3, .int x1), (0, .ref (a this)), (1, .int v1), (2, .ref (a (this + 1 + 1)))]) hx hb dX4_leastPromisesRound_125 hl (k := 3) rfl (by rw [ex1]; rfl) (by decide) rfl (fun ls hl => ?_)
  refine lv_goto (tgt := 32) hx hb dX4_leastPromisesRound_128 (by decide) ?_
  exact hk32 _ _ _ _ _ hf hG (lv_sub hl [1, 2, 3, 0] rfl)
set_option maxHeartbeats 4000000 in
set_option maxRecDepth 100000 in
theorem w_X4_leastPromisesRound_L46 {l : Launch} {dC : Nat → ClassId} {dI : Nat → Nat → Nat} {cy : Nat → ClassId} {a : Nat → Nat} {p : Program} {e : Env} {s : State} {m : MethodId} {args : Array Value} {below : List Frame} {meth : Method} {c : Code} (X : XU dC dI cy a p s m c args meth cX4_leastPromisesRound 8 RX4 (some .int)) {this : Nat} (hT : K4 this) {v1 : Int32} {v3 : Int32} {o : (Int32 × Mem)} {k32 : Mem → Int32 → Option (Int32 × Mem)} (hk32 : ∀ (M : Mem) (v3 : Int32) (H : Heap) (locs : List Loc) (ls : Array Slot), k32 M v3 = some o → GU dC dI cy a s.heap M H locs → lv_has ls 8 [(0, .ref (a this)), (1, .int v1), (2, .ref (a (this + 1 + 1))), (3, .int v3)] → W p l e ({ frames := 1, cells := 0, slots := 0, locals := 40 } : Room) s m args below meth c H locs 0 0 (MQ below (QUi dC dI cy a o.1 o.2) args s 0 0 (AU a)) (F0 m 32 ls [])) : ∀ (n : Nat) (M : Mem) (v4 : Int32) (H : Heap) (locs : List Loc) (ls : Array Slot), f_X4_leastPromisesRound_L46 k32 this v1 v3 n M v4 = some o → GU dC dI cy a s.heap M H locs → lv_has ls 8 [(0, .ref (a this)), (1, .int v1), (2, .ref (a (this + 1 + 1))), (3, .int v3), (4, .int v4)] → W p l e ({ frames := 1, cells := 0, slots := 0, locals := 40 } : Room) s m args below meth c H locs 0 0 (MQ below (QUi dC dI cy a o.1 o.2) args s 0 0 (AU a)) (F0 m 46 ls []) := by
  have hx := X.1.1
  have hb := X.1.2.1
  have hown := X.1.2.2.2.1
  have hts := X.1.2.2.2.2
  intro n
  induction n with
  | zero => intro M v4 H locs ls hf; cases hf
  | succ n ih =>
    intro M v4 H locs ls hf hG hl
    rw [f_X4_leastPromisesRound_L46] at hf
    refine lv_iload hx hb dX4_leastPromisesRound_46 (lv_at hl 4 rfl) ?_
    refine lv_aload_n hx hb dX4_leastPromisesRound_48 rfl (lv_at hl 2 rfl) ?_
    refine gf_X4_74 X hG hT.2.1.2.1 dX4_leastPromisesRound_49 ?_
    refine lv_icmp_ge (tgt := 125) hx hb dX4_leastPromisesRound_52 (by decide) (fun c1 => ?_) (fun c1 => ?_)
    · have hf := itep c1 hf
      exact w_X4_leastPromisesRound_L125 X hT hk32 hf hG (lv_sub hl [0, 1, 2, 3] rfl)
    · have hf := iten c1 hf
      refine lv_aload_n hx hb dX4_leastPromisesRound_55 rfl (lv_at hl 2 rfl) ?_
      refine gf_X4_181 X hG hT.2.1.2.1 dX4_leastPromisesRound_56 ?_
      refine lv_iload hx hb dX4_leastPromisesRound_59 (lv_at hl 4 rfl) ?_
      obtain ⟨hi2, hf⟩ := ck_some hf
      refine mw_iald X hG hT.2.1.2.1.2.1 hi2 dX4_leastPromisesRound_61 ?_
      refine lv_topi (fun x3 ex3 => ?_)
      have hf := nm_of ex3 hf
      refine lv_istore (lv' := [(5, .int x3), (0, .ref (a this)), (1, .int v1), (2, .ref (a (this + 1 + 1))), (3, .int v3), (4, .int v4)]) hx hb dX4_leastPromisesRound_62 hl (by decide) rfl (fun ls hl => ?_)
      refine lv_aload_n hx hb dX4_leastPromisesRound_64 rfl (lv_at hl 3 rfl) ?_
      refine gf_X4_184 X hG hT.2.1.2.1 dX4_leastPromisesRound_65 ?_
      refine lv_iload hx hb dX4_leastPromisesRound_68 (lv_at hl 5 rfl) ?_
      obtain ⟨hi4, hf⟩ := ck_some hf
      refine mw_iald X hG hT.2.1.2.1.2.2.1 hi4 dX4_leastPromisesRound_70 ?_
      refine lv_topi (fun x5 ex5 => ?_)
      have hf := nm_of ex5 hf
      refine lv_istore (lv' := [(6, .int x5), (5, .int x3), (0, .ref (a this)), (1, .int v1), (2, .ref (a (this + 1 + 1))), (3, .int v3), (4, .int v4)]) hx hb dX4_leastPromisesRound_71 hl (by decide) rfl (fun ls hl => ?_)
      refine lv_iload hx hb dX4_leastPromisesRound_73 (lv_at hl 1 rfl) ?_
      refine lv_iload_n hx hb dX4_leastPromisesRound_75 rfl (lv_at hl 3 rfl) ?_
      refine lv_icmp_ne (tgt := 83) hx hb dX4_leastPromisesRound_76 (by decide) (fun c6 => ?_) (fun c6 => ?_)
      · have hf := iten c6 hf
        refine lv_aload_n hx hb dX4_leastPromisesRound_83 rfl (lv_at hl 2 rfl) ?_
        refine gf_X4_34 X hG hT dX4_leastPromisesRound_84 ?_
        refine lv_iload hx hb dX4_leastPromisesRound_87 (lv_at hl 1 rfl) ?_
        obtain ⟨hi7, hf⟩ := ck_some hf
        refine mw_iald X hG hT.2.2.2.2.2.2.2 hi7 dX4_leastPromisesRound_89 ?_
        exact w_X4_leastPromisesRound_L90 X hT hk32 ih hf hG (lv_sub hl [2, 3, 4, 5, 6, 0] rfl)
      · have hf := itep c6 hf
        refine lv_iconst (v := 0) hx hb dX4_leastPromisesRound_79 (by decide) ?_
        refine lv_goto (tgt := 90) hx hb dX4_leastPromisesRound_80 (by decide) ?_
        exact w_X4_leastPromisesRound_L90 X hT hk32 ih hf hG (lv_sub hl [2, 3, 4, 5, 6, 0] rfl)
set_option maxHeartbeats 4000000 in
set_option maxRecDepth 100000 in
theorem w_X4_leastPromisesRound_L32 {l : Launch} {dC : Nat → ClassId} {dI : Nat → Nat → Nat} {cy : Nat → ClassId} {a : Nat → Nat} {p : Program} {e : Env} {s : State} {m : MethodId} {args : Array Value} {below : List Frame} {meth : Method} {c : Code} (X : XU dC dI cy a p s m c args meth cX4_leastPromisesRound 8 RX4 (some .int)) {this : Nat} (hT : K4 this) {v1 : Int32} {o : (Int32 × Mem)} : ∀ (n : Nat) (M : Mem) (v3 : Int32) (H : Heap) (locs : List Loc) (ls : Array Slot), f_X4_leastPromisesRound_L32 this v1 n M v3 = some o → GU dC dI cy a s.heap M H locs → lv_has ls 8 [(0, .ref (a this)), (1, .int v1), (2, .ref (a (this + 1 + 1))), (3, .int v3)] → W p l e ({ frames := 1, cells := 0, slots := 0, locals := 40 } : Room) s m args below meth c H locs 0 0 (MQ below (QUi dC dI cy a o.1 o.2) args s 0 0 (AU a)) (F0 m 32 ls []) := by
  have hx := X.1.1
  have hb := X.1.2.1
  have hown := X.1.2.2.2.1
  have hts := X.1.2.2.2.2
  intro n
  induction n with
  | zero => intro M v3 H locs ls hf; cases hf
  | succ n ih =>
    intro M v3 H locs ls hf hG hl
    rw [f_X4_leastPromisesRound_L32] at hf
    refine lv_iload_n hx hb dX4_leastPromisesRound_32 rfl (lv_at hl 3 rfl) ?_
    refine lv_aload_n hx hb dX4_leastPromisesRound_33 rfl (lv_at hl 0 rfl) ?_
    refine gf_X4_10 X hG hT dX4_leastPromisesRound_34 ?_
    refine gf_X4_93 X hG hT.2.1 dX4_leastPromisesRound_37 ?_
    refine lv_icmp_ge (tgt := 131) hx hb dX4_leastPromisesRound_40 (by decide) (fun c1 => ?_) (fun c1 => ?_)
    · have hf := itep c1 hf
      refine lv_aload_n hx hb dX4_leastPromisesRound_131 rfl (lv_at hl 0 rfl) ?_
      refine gf_X4_34 X hG hT dX4_leastPromisesRound_132 ?_
      refine lv_iload_n hx hb dX4_leastPromisesRound_135 rfl (lv_at hl 1 rfl) ?_
      obtain ⟨hi2, hf⟩ := ck_some hf
      refine mw_iald X hG hT.2.2.2.2.2.2.2 hi2 dX4_leastPromisesRound_136 ?_
      obtain rfl := Option.some.inj hf
      exact mw_iret X hG dX4_leastPromisesRound_137
    · have hf := iten c1 hf
      refine lv_iconst (v := 0) hx hb dX4_leastPromisesRound_43 (by decide) ?_
      refine lv_istore (lv' := [(4, .int (0 : Int32)), (0, .ref (a this)), (1, .int v1), (2, .ref (a (this + 1 + 1))), (3, .int v3)]) hx hb dX4_leastPromisesRound_44 hl (by decide) rfl (fun ls hl => ?_)
      exact w_X4_leastPromisesRound_L46 X hT ih 1000 _ _ _ _ _ hf hG (lv_sub hl [1, 2, 3, 4, 0] rfl)
set_option maxHeartbeats 4000000 in
set_option maxRecDepth 100000 in
theorem w_X4_leastPromisesRound_L22 {l : Launch} {dC : Nat → ClassId} {dI : Nat → Nat → Nat} {cy : Nat → ClassId} {a : Nat → Nat} {p : Program} {e : Env} {s : State} {m : MethodId} {args : Array Value} {below : List Frame} {meth : Method} {c : Code} (X : XU dC dI cy a p s m c args meth cX4_leastPromisesRound 8 RX4 (some .int)) {M : Mem} {this : Nat} (hT : K4 this) {v1 : Int32} {o : (Int32 × Mem)} {H : Heap} {locs : List Loc} {ls : Array Slot} (hf : f_X4_leastPromisesRound_L22 M this v1 = some o) (hG : GU dC dI cy a s.heap M H locs) (hl : lv_has ls 8 [(0, .ref (a this)), (1, .int v1)]) : W p l e ({ frames := 1, cells := 0, slots := 0, locals := 40 } : Room) s m args below meth c H locs 0 0 (MQ below (QUi dC dI cy a o.1 o.2) args s 0 0 (AU a)) (F0 m 22 ls []) := by
  have hx := X.1.1
  have hb := X.1.2.1
  have hown := X.1.2.2.2.1
  have hts := X.1.2.2.2.2
  rw [f_X4_leastPromisesRound_L22] at hf
  refine lv_aload_n hx hb dX4_leastPromisesRound_22 rfl (lv_at hl 0 rfl) ?_
  refine gf_X4_10 X hG hT dX4_leastPromisesRound_23 ?_
  refine gf_X4_59 X hG hT.2.1 dX4_leastPromisesRound_26 ?_
  refine lv_astore_n (lv' := [(2, .ref (a (this + 1 + 1))), (0, .ref (a this)), (1, .int v1)]) hx hb dX4_leastPromisesRound_29 rfl hl (by decide) rfl (fun ls hl => ?_)
  refine lv_iconst (v := 0) hx hb dX4_leastPromisesRound_30 (by decide) ?_
  refine lv_istore_n (lv' := [(3, .int (0 : Int32)), (2, .ref (a (this + 1 + 1))), (0, .ref (a this)), (1, .int v1)]) hx hb dX4_leastPromisesRound_31 rfl hl (by decide) rfl (fun ls hl => ?_)
  exact w_X4_leastPromisesRound_L32 X hT 1000 _ _ _ _ _ hf hG (lv_sub hl [2, 3, 1, 0] rfl)
set_option maxHeartbeats 4000000 in
set_option maxRecDepth 100000 in
theorem w_X4_leastPromisesRound_L2 {l : Launch} {dC : Nat → ClassId} {dI : Nat → Nat → Nat} {cy : Nat → ClassId} {a : Nat → Nat} {p : Program} {e : Env} {s : State} {m : MethodId} {args : Array Value} {below : List Frame} {meth : Method} {c : Code} (X : XU dC dI cy a p s m c args meth cX4_leastPromisesRound 8 RX4 (some .int)) {this : Nat} (hT : K4 this) {v1 : Int32} {o : (Int32 × Mem)} : ∀ (n : Nat) (M : Mem) (v2 : Int32) (H : Heap) (locs : List Loc) (ls : Array Slot), f_X4_leastPromisesRound_L2 this v1 n M v2 = some o → GU dC dI cy a s.heap M H locs → lv_has ls 8 [(0, .ref (a this)), (1, .int v1), (2, .int v2)] → W p l e ({ frames := 1, cells := 0, slots := 0, locals := 40 } : Room) s m args below meth c H locs 0 0 (MQ below (QUi dC dI cy a o.1 o.2) args s 0 0 (AU a)) (F0 m 2 ls []) := by
  have hx := X.1.1
  have hb := X.1.2.1
  have hown := X.1.2.2.2.1
  have hts := X.1.2.2.2.2
  intro n
  induction n with
  | zero => intro M v2 H locs ls hf; cases hf
  | succ n ih =>
    intro M v2 H locs ls hf hG hl
    rw [f_X4_leastPromisesRound_L2] at hf
    refine lv_iload_n hx hb dX4_leastPromisesRound_2 rfl (lv_at hl 2 rfl) ?_
    refine lv_bipush (v := 6) hx hb dX4_leastPromisesRound_3 (by decide) ?_
    refine lv_icmp_ge (tgt := 22) hx hb dX4_leastPromisesRound_5 (by decide) (fun c1 => ?_) (fun c1 => ?_)
    · have hf := itep c1 hf
      exact w_X4_leastPromisesRound_L22 X hT hf hG (lv_sub hl [0, 1] rfl)
    · have hf := iten c1 hf
      refine lv_aload_n hx hb dX4_leastPromisesRound_8 rfl (lv_at hl 0 rfl) ?_
      refine gf_X4_34 X hG hT dX4_leastPromisesRound_9 ?_
      refine lv_iload_n hx hb dX4_leastPromisesRound_12 rfl (lv_at hl 2 rfl) ?_
      refine lv_ldc (v := 99999999) hx hb hown (hts _ wd_ct_X4_217) dX4_leastPromisesRound_13 ?_
      obtain ⟨hi2, hf⟩ := ck_some hf
      refine mw_iast X hG hT.2.2.2.2.2.2.2 hi2 dX4_leastPromisesRound_15 (fun M3 H locs eM3 hG => ?_)
      have hf := nm_of eM3 hf
      obtain ⟨x4, ex4⟩ : ∃ y : Int32, y = v2 + (1 : Int32) := ⟨_, rfl⟩
      have hf := nm_of ex4 hf
      refine lv_iinc (v := x4) (lv' := [(2, .int x4), (0, .ref (a this)), (1, .int v1)]) hx hb dX4_leastPromisesRound_16 hl (k := 2) rfl (by rw [ex4]; rfl) (by decide) rfl (fun ls hl => ?_)
      refine lv_goto (tgt := 2) hx hb dX4_leastPromisesRound_19 (by decide) ?_
      exact ih _ _ _ _ _ hf hG (lv_sub hl [1, 2, 0] rfl)
set_option maxHeartbeats 4000000 in
set_option maxRecDepth 100000 in
theorem c_X4_leastPromisesRound (l : Launch) (dC : Nat → ClassId) (dI : Nat → Nat → Nat) (cy : Nat → ClassId) (a : Nat → Nat) (ha : injU a) (this : Nat) (hT : K4 this) (M : Mem) (v1 : Int32) {o : (Int32 × Mem)} (hf : f_X4_leastPromisesRound M this v1 = some o) : Met l yX4_leastPromisesRound (wsU yX4_leastPromisesRound cX4_leastPromisesRound 8 (some .int)) ({ frames := 1, cells := 0, slots := 0, locals := 40 } : Room) (PU dC dI cy a [.ref (a this), .int v1] M) (QUi dC dI cy a o.1 o.2) 0 0 (AU a) := by
  refine mw_met (by decide) ha (Nat.le_of_ble_eq_true rfl) ?_
  intro p e s m below meth c ls X hG hl
  have hl : lv_has ls 8 [(0, .ref (a this)), (1, .int v1)] := hl
  have X : XU dC dI cy a p s m c [.ref (a this), .int v1].toArray meth cX4_leastPromisesRound 8 RX4 (some .int) := X
  have hx := X.1.1
  have hb := X.1.2.1
  have hown := X.1.2.2.2.1
  have hts := X.1.2.2.2.2
  rw [f_X4_leastPromisesRound] at hf
  refine lv_iconst (v := 0) hx hb dX4_leastPromisesRound_0 (by decide) ?_
  refine lv_istore_n (lv' := [(2, .int (0 : Int32)), (0, .ref (a this)), (1, .int v1)]) hx hb dX4_leastPromisesRound_1 rfl hl (by decide) rfl (fun ls hl => ?_)
  exact w_X4_leastPromisesRound_L2 X hT 1000 _ _ _ _ _ hf hG (lv_sub hl [1, 2, 0] rfl)
/-! X4_ring -/
set_option maxHeartbeats 4000000 in
set_option maxRecDepth 100000 in
theorem w_X4_ring_L28 {l : Launch} {dC : Nat → ClassId} {dI : Nat → Nat → Nat} {cy : Nat → ClassId} {a : Nat → Nat} {p : Program} {e : Env} {s : State} {m : MethodId} {args : Array Value} {below : List Frame} {meth : Method} {c : Code} (X : XU dC dI cy a p s m c args meth cX4_ring 3 RX4 (some .int)) {M : Mem} {this : Nat} (hT : K4 this) {s0 : Int32} {o : (Int32 × Mem)} {H : Heap} {locs : List Loc} {ls : Array Slot} (hf : f_X4_ring_L28 M this s0 = some o) (hG : GU dC dI cy a s.heap M H locs) (hl : lv_has ls 3 [(0, .ref (a this))]) : W p l e ({ frames := 2, cells := 0, slots := 0, locals := 67 } : Room) s m args below meth c H locs 0 0 (MQ below (QUi dC dI cy a o.1 o.2) args s 0 0 (AU a)) (F0 m 28 ls [.int s0]) := by
  have hx := X.1.1
  have hb := X.1.2.1
  have hown := X.1.2.2.2.1
  have hts := X.1.2.2.2.2
  rw [f_X4_ring_L28] at hf
  obtain rfl := Option.some.inj hf
  exact mw_iret X hG dX4_ring_28
set_option maxHeartbeats 4000000 in
set_option maxRecDepth 100000 in
theorem c_X4_ring (l : Launch) (dC : Nat → ClassId) (dI : Nat → Nat → Nat) (cy : Nat → ClassId) (a : Nat → Nat) (ha : injU a) (this : Nat) (hT : K4 this) (M : Mem) (v1 : Int32) {o : (Int32 × Mem)} (hf : f_X4_ring M this v1 = some o) : Met l yX4_ring (wsU yX4_ring cX4_ring 3 (some .int)) ({ frames := 2, cells := 0, slots := 0, locals := 67 } : Room) (PU dC dI cy a [.ref (a this), .int v1] M) (QUi dC dI cy a o.1 o.2) 0 0 (AU a) := by
  refine mw_met (by decide) ha (Nat.le_of_ble_eq_true rfl) ?_
  intro p e s m below meth c ls X hG hl
  have hl : lv_has ls 3 [(0, .ref (a this)), (1, .int v1)] := hl
  have X : XU dC dI cy a p s m c [.ref (a this), .int v1].toArray meth cX4_ring 3 RX4 (some .int) := X
  have hx := X.1.1
  have hb := X.1.2.1
  have hown := X.1.2.2.2.1
  have hts := X.1.2.2.2.2
  rw [f_X4_ring] at hf
  refine lv_aload_n hx hb dX4_ring_0 rfl (lv_at hl 0 rfl) ?_
  refine lv_iload_n hx hb dX4_ring_1 rfl (lv_at hl 1 rfl) ?_
  obtain ⟨x1, hr2, hf⟩ := bd_some hf
  refine mw_callVi (rest := []) X hG hT.1 rfl (c_X4_isNoPart l dC dI cy a X.2.2.1 this hT M v1 hr2) (mw_cwV X 1 g_X4_143 hd_X4_isNoPart ⟨rfl, rfl⟩ ⟨Nat.le_of_ble_eq_true rfl, Nat.le_of_ble_eq_true rfl⟩) rfl hl.1 rfl (Nat.le_of_ble_eq_true rfl) dX4_ring_2 (fun H locs hG => ?_)
  refine lv_if_eq (tgt := 11) hx hb dX4_ring_5 (by decide) (fun c3 => ?_) (fun c3 => ?_)
  · have hf := itep c3 hf
    refine lv_aload_n hx hb dX4_ring_11 rfl (lv_at hl 0 rfl) ?_
    refine lv_iload_n hx hb dX4_ring_12 rfl (lv_at hl 1 rfl) ?_
    obtain ⟨x5, M4, hr6, hf⟩ := bd2_some hf
    refine mw_callVi (rest := []) X hG hT.1 rfl (c_X4_leastPromisesRound l dC dI cy a X.2.2.1 this hT M v1 hr6) (mw_cwV X 1 g_X4_214 hd_X4_leastPromisesRound ⟨rfl, rfl⟩ ⟨Nat.le_of_ble_eq_true rfl, Nat.le_of_ble_eq_true rfl⟩) rfl hl.1 rfl (Nat.le_of_ble_eq_true rfl) dX4_ring_13 (fun H locs hG => ?_)
    refine lv_istore_n (lv' := [(2, .int x5), (0, .ref (a this)), (1, .int v1)]) hx hb dX4_ring_16 rfl hl (by decide) rfl (fun ls hl => ?_)
    refine lv_iload_n hx hb dX4_ring_17 rfl (lv_at hl 0 rfl) ?_
    refine lv_ldc (v := 99999999) hx hb hown (hts _ wd_ct_X4_217) dX4_ring_18 ?_
    refine lv_icmp_ne (tgt := 27) hx hb dX4_ring_20 (by decide) (fun c7 => ?_) (fun c7 => ?_)
    · have hf := iten c7 hf
      refine lv_iload_n hx hb dX4_ring_27 rfl (lv_at hl 0 rfl) ?_
      exact w_X4_ring_L28 X hT hf hG (lv_sub hl [1] rfl)
    · have hf := itep c7 hf
      refine lv_iconst (v := -1) hx hb dX4_ring_23 (by decide) ?_
      refine lv_goto (tgt := 28) hx hb dX4_ring_24 (by decide) ?_
      exact w_X4_ring_L28 X hT hf hG (lv_sub hl [1] rfl)
  · have hf := iten c3 hf
    refine lv_ldc (v := -1000000001) hx hb hown (hts _ wd_ct_X4_58) dX4_ring_8 ?_
    obtain rfl := Option.some.inj hf
    exact mw_iret X hG dX4_ring_10
/-! X4_waits -/
set_option maxHeartbeats 4000000 in
set_option maxRecDepth 100000 in
theorem w_X4_waits_L18 {l : Launch} {dC : Nat → ClassId} {dI : Nat → Nat → Nat} {cy : Nat → ClassId} {a : Nat → Nat} {p : Program} {e : Env} {s : State} {m : MethodId} {args : Array Value} {below : List Frame} {meth : Method} {c : Code} (X : XU dC dI cy a p s m c args meth cX4_waits 6 RX4 (some .int)) {M : Mem} {this : Nat} (hT : K4 this) {o : Int32} : ∀ (n : Nat) (v2 : Int32) (v3 : Int32) (v4 : Int32) (H : Heap) (locs : List Loc) (ls : Array Slot), f_X4_waits_L18 M this n v2 v3 v4 = some o → GU dC dI cy a s.heap M H locs → lv_has ls 6 [(0, .ref (a this)), (2, .int v2), (3, .int v3), (4, .int v4)] → W p l e ({ frames := 2, cells := 0, slots := 0, locals := 45 } : Room) s m args below meth c H locs 0 0 (MQ below (QUi dC dI cy a o M) args s 0 0 (AU a)) (F0 m 18 ls []) := by
  have hx := X.1.1
  have hb := X.1.2.1
  have hown := X.1.2.2.2.1
  have hts := X.1.2.2.2.2
  intro n
  induction n with
  | zero => intro v2 v3 v4 H locs ls hf; cases hf
  | succ n ih =>
    intro v2 v3 v4 H locs ls hf hG hl
    rw [f_X4_waits_L18] at hf
    refine lv_iload hx hb dX4_waits_18 (lv_at hl 3 rfl) ?_
    refine lv_bipush (v := 6) hx hb dX4_waits_20 (by decide) ?_
    refine lv_icmp_ge (tgt := 69) hx hb dX4_waits_22 (by decide) (fun c1 => ?_) (fun c1 => ?_)
    · have hf := itep c1 hf
      refine lv_iload_n hx hb dX4_waits_69 rfl (lv_at hl 1 rfl) ?_
      obtain rfl := Option.some.inj hf
      exact mw_iret X hG dX4_waits_70
    · have hf := iten c1 hf
      refine lv_aload_n hx hb dX4_waits_25 rfl (lv_at hl 0 rfl) ?_
      refine gf_X4_10 X hG hT dX4_waits_26 ?_
      refine lv_iload_n hx hb dX4_waits_29 rfl (lv_at hl 2 rfl) ?_
      obtain ⟨x2, hr3, hf⟩ := bd_some hf
      refine mw_callVi (rest := []) X hG hT.2.1.1 rfl (c_X3_channelWaitedFor l dC dI cy a X.2.2.1 (this + 1) hT.2.1 M v3 hr3) (mw_cwV X 1 g_X4_172 hd_X3_channelWaitedFor ⟨rfl, rfl⟩ ⟨Nat.le_of_ble_eq_true rfl, Nat.le_of_ble_eq_true rfl⟩) rfl hl.1 rfl (Nat.le_of_ble_eq_true rfl) dX4_waits_30 (fun H locs hG => ?_)
      refine lv_istore (lv' := [(5, .int x2), (0, .ref (a this)), (2, .int v2), (3, .int v3), (4, .int v4)]) hx hb dX4_waits_33 hl (by decide) rfl (fun ls hl => ?_)
      refine lv_iload hx hb dX4_waits_35 (lv_at hl 0 rfl) ?_
      refine lv_iconst (v := -1) hx hb dX4_waits_37 (by decide) ?_
      refine lv_icmp_ne (tgt := 43) hx hb dX4_waits_38 (by decide) (fun c4 => ?_) (fun c4 => ?_)
      · have hf := iten c4 hf
        refine lv_aload_n hx hb dX4_waits_43 rfl (lv_at hl 1 rfl) ?_
        refine gf_X4_10 X hG hT dX4_waits_44 ?_
        refine gf_X4_59 X hG hT.2.1 dX4_waits_47 ?_
        refine gf_X4_181 X hG hT.2.1.2.1 dX4_waits_50 ?_
        refine lv_iload hx hb dX4_waits_53 (lv_at hl 0 rfl) ?_
        obtain ⟨hi5, hf⟩ := ck_some hf
        refine mw_iald X hG hT.2.1.2.1.2.1 hi5 dX4_waits_55 ?_
        refine lv_topi (fun x6 ex6 => ?_)
        have hf := nm_of ex6 hf
        refine lv_istore_n (lv' := [(3, .int x6), (5, .int x2), (0, .ref (a this)), (2, .int v2), (4, .int v4)]) hx hb dX4_waits_56 rfl hl (by decide) rfl (fun ls hl => ?_)
        refine lv_iload_n hx hb dX4_waits_57 rfl (lv_at hl 3 rfl) ?_
        refine lv_iconst (v := 1) hx hb dX4_waits_58 (by decide) ?_
        refine lv_iload_n hx hb dX4_waits_59 rfl (lv_at hl 0 rfl) ?_
        refine lv_ishl hx hb dX4_waits_60 ?_
        refine lv_ior hx hb dX4_waits_61 ?_
        refine lv_topi (fun x7 ex7 => ?_)
        have hf := nm_of ex7 hf
        refine lv_istore_n (lv' := [(2, .int x7), (3, .int x6), (5, .int x2), (0, .ref (a this)), (4, .int v4)]) hx hb dX4_waits_62 rfl hl (by decide) rfl (fun ls hl => ?_)
        obtain ⟨x8, ex8⟩ : ∃ y : Int32, y = v4 + (1 : Int32) := ⟨_, rfl⟩
        have hf := nm_of ex8 hf
        refine lv_iinc (v := x8) (lv' := [(4, .int x8), (2, .int x7), (3, .int x6), (5, .int x2), (0, .ref (a this))]) hx hb dX4_waits_63 hl (k := 4) rfl (by rw [ex8]; rfl) (by decide) rfl (fun ls hl => ?_)
        refine lv_goto (tgt := 18) hx hb dX4_waits_66 (by decide) ?_
        exact ih _ _ _ _ _ _ hf hG (lv_sub hl [4, 1, 2, 0] rfl)
      · have hf := itep c4 hf
        refine lv_iload_n hx hb dX4_waits_41 rfl (lv_at hl 2 rfl) ?_
        obtain rfl := Option.some.inj hf
        exact mw_iret X hG dX4_waits_42
set_option maxHeartbeats 4000000 in
set_option maxRecDepth 100000 in
theorem c_X4_waits (l : Launch) (dC : Nat → ClassId) (dI : Nat → Nat → Nat) (cy : Nat → ClassId) (a : Nat → Nat) (ha : injU a) (this : Nat) (hT : K4 this) (M : Mem) (v1 : Int32) {o : Int32} (hf : f_X4_waits M this v1 = some o) : Met l yX4_waits (wsU yX4_waits cX4_waits 6 (some .int)) ({ frames := 2, cells := 0, slots := 0, locals := 45 } : Room) (PU dC dI cy a [.ref (a this), .int v1] M) (QUi dC dI cy a o M) 0 0 (AU a) := by
  refine mw_met (by decide) ha (Nat.le_of_ble_eq_true rfl) ?_
  intro p e s m below meth c ls X hG hl
  have hl : lv_has ls 6 [(0, .ref (a this)), (1, .int v1)] := hl
  have X : XU dC dI cy a p s m c [.ref (a this), .int v1].toArray meth cX4_waits 6 RX4 (some .int) := X
  have hx := X.1.1
  have hb := X.1.2.1
  have hown := X.1.2.2.2.1
  have hts := X.1.2.2.2.2
  rw [f_X4_waits] at hf
  refine lv_aload_n hx hb dX4_waits_0 rfl (lv_at hl 0 rfl) ?_
  refine lv_iload_n hx hb dX4_waits_1 rfl (lv_at hl 1 rfl) ?_
  obtain ⟨x1, hr2, hf⟩ := bd_some hf
  refine mw_callVi (rest := []) X hG hT.1 rfl (c_X4_isNoPart l dC dI cy a X.2.2.1 this hT M v1 hr2) (mw_cwV X 1 g_X4_143 hd_X4_isNoPart ⟨rfl, rfl⟩ ⟨Nat.le_of_ble_eq_true rfl, Nat.le_of_ble_eq_true rfl⟩) rfl hl.1 rfl (Nat.le_of_ble_eq_true rfl) dX4_waits_2 (fun H locs hG => ?_)
  refine lv_if_eq (tgt := 11) hx hb dX4_waits_5 (by decide) (fun c3 => ?_) (fun c3 => ?_)
  · have hf := itep c3 hf
    refine lv_iconst (v := 0) hx hb dX4_waits_11 (by decide) ?_
    refine lv_istore_n (lv' := [(2, .int (0 : Int32)), (0, .ref (a this)), (1, .int v1)]) hx hb dX4_waits_12 rfl hl (by decide) rfl (fun ls hl => ?_)
    refine lv_iload_n hx hb dX4_waits_13 rfl (lv_at hl 2 rfl) ?_
    refine lv_istore_n (lv' := [(3, .int v1), (2, .int (0 : Int32)), (0, .ref (a this)), (1, .int v1)]) hx hb dX4_waits_14 rfl hl (by decide) rfl (fun ls hl => ?_)
    refine lv_iconst (v := 0) hx hb dX4_waits_15 (by decide) ?_
    refine lv_istore (lv' := [(4, .int (0 : Int32)), (3, .int v1), (2, .int (0 : Int32)), (0, .ref (a this)), (1, .int v1)]) hx hb dX4_waits_16 hl (by decide) rfl (fun ls hl => ?_)
    exact w_X4_waits_L18 X hT 1000 _ _ _ _ _ _ hf hG (lv_sub hl [3, 2, 1, 0] rfl)
  · have hf := iten c3 hf
    refine lv_ldc (v := -1000000001) hx hb hown (hts _ wd_ct_X4_58) dX4_waits_8 ?_
    obtain rfl := Option.some.inj hf
    exact mw_iret X hG dX4_waits_10
/-! X4_inOrder -/
set_option maxHeartbeats 4000000 in
set_option maxRecDepth 100000 in
theorem w_X4_inOrder_L98 {l : Launch} {dC : Nat → ClassId} {dI : Nat → Nat → Nat} {cy : Nat → ClassId} {a : Nat → Nat} {p : Program} {e : Env} {s : State} {m : MethodId} {args : Array Value} {below : List Frame} {meth : Method} {c : Code} (X : XU dC dI cy a p s m c args meth cX4_inOrder 4 RX4 (some .int)) {M : Mem} {this : Nat} (hT : K4 this) {s0 : Int32} {o : (Int32 × Mem)} {H : Heap} {locs : List Loc} {ls : Array Slot} (hf : f_X4_inOrder_L98 M this s0 = some o) (hG : GU dC dI cy a s.heap M H locs) (hl : lv_has ls 4 [(0, .ref (a this))]) : W p l e ({ frames := 4, cells := 0, slots := 0, locals := 97 } : Room) s m args below meth c H locs 0 0 (MQ below (QUi dC dI cy a o.1 o.2) args s 0 0 (AU a)) (F0 m 98 ls [.int s0]) := by
  have hx := X.1.1
  have hb := X.1.2.1
  have hown := X.1.2.2.2.1
  have hts := X.1.2.2.2.2
  rw [f_X4_inOrder_L98] at hf
  obtain rfl := Option.some.inj hf
  exact mw_iret X hG dX4_inOrder_98
set_option maxHeartbeats 4000000 in
set_option maxRecDepth 100000 in
theorem w_X4_inOrder_L73 {l : Launch} {dC : Nat → ClassId} {dI : Nat → Nat → Nat} {cy : Nat → ClassId} {a : Nat → Nat} {p : Program} {e : Env} {s : State} {m : MethodId} {args : Array Value} {below : List Frame} {meth : Method} {c : Code} (X : XU dC dI cy a p s m c args meth cX4_inOrder 4 RX4 (some .int)) {M : Mem} {this : Nat} (hT : K4 this) {v1 : Int32} {v2 : Int32} {o : (Int32 × Mem)} {H : Heap} {locs : List Loc} {ls : Array Slot} (hf : f_X4_inOrder_L73 M this v1 v2 = some o) (hG : GU dC dI cy a s.heap M H locs) (hl : lv_has ls 4 [(0, .ref (a this)), (1, .int v1), (2, .int v2)]) : W p l e ({ frames := 4, cells := 0, slots := 0, locals := 97 } : Room) s m args below meth c H locs 0 0 (MQ below (QUi dC dI cy a o.1 o.2) args s 0 0 (AU a)) (F0 m 73 ls []) := by
  have hx := X.1.1
  have hb := X.1.2.1
  have hown := X.1.2.2.2.1
  have hts := X.1.2.2.2.2
  rw [f_X4_inOrder_L73] at hf
  refine lv_iload_n hx hb dX4_inOrder_73 rfl (lv_at hl 2 rfl) ?_
  refine lv_if_ne (tgt := 89) hx hb dX4_inOrder_74 (by decide) (fun c1 => ?_) (fun c1 => ?_)
  · have hf := iten c1 hf
    refine lv_aload_n hx hb dX4_inOrder_89 rfl (lv_at hl 0 rfl) ?_
    refine gf_X4_16 X hG hT dX4_inOrder_90 ?_
    refine gf_X4_149 X hG hT.2.2.1 dX4_inOrder_93 ?_
    refine lv_iload_n hx hb dX4_inOrder_96 rfl (lv_at hl 1 rfl) ?_
    obtain ⟨hi2, hf⟩ := ck_some hf
    refine mw_iald X hG hT.2.2.1.2.2.2.2.1 hi2 dX4_inOrder_97 ?_
    exact w_X4_inOrder_L98 X hT hf hG (lv_sub hl [0] rfl)
  · have hf := itep c1 hf
    refine lv_aload_n hx hb dX4_inOrder_77 rfl (lv_at hl 0 rfl) ?_
    refine gf_X4_16 X hG hT dX4_inOrder_78 ?_
    refine gf_X4_146 X hG hT.2.2.1 dX4_inOrder_81 ?_
    refine lv_iload_n hx hb dX4_inOrder_84 rfl (lv_at hl 1 rfl) ?_
    obtain ⟨hi3, hf⟩ := ck_some hf
    refine mw_iald X hG hT.2.2.1.2.2.2.1 hi3 dX4_inOrder_85 ?_
    refine lv_goto (tgt := 98) hx hb dX4_inOrder_86 (by decide) ?_
    exact w_X4_inOrder_L98 X hT hf hG (lv_sub hl [0] rfl)
set_option maxHeartbeats 4000000 in
set_option maxRecDepth 100000 in
theorem w_X4_inOrder_L36 {l : Launch} {dC : Nat → ClassId} {dI : Nat → Nat → Nat} {cy : Nat → ClassId} {a : Nat → Nat} {p : Program} {e : Env} {s : State} {m : MethodId} {args : Array Value} {below : List Frame} {meth : Method} {c : Code} (X : XU dC dI cy a p s m c args meth cX4_inOrder 4 RX4 (some .int)) {this : Nat} (hT : K4 this) {v1 : Int32} {v2 : Int32} {o : (Int32 × Mem)} : ∀ (n : Nat) (M : Mem) (v3 : Int32) (H : Heap) (locs : List Loc) (ls : Array Slot), f_X4_inOrder_L36 this v1 v2 n M v3 = some o → GU dC dI cy a s.heap M H locs → lv_has ls 4 [(0, .ref (a this)), (1, .int v1), (2, .int v2), (3, .int v3)] → W p l e ({ frames := 4, cells := 0, slots := 0, locals := 97 } : Room) s m args below meth c H locs 0 0 (MQ below (QUi dC dI cy a o.1 o.2) args s 0 0 (AU a)) (F0 m 36 ls []) := by
  have hx := X.1.1
  have hb := X.1.2.1
  have hown := X.1.2.2.2.1
  have hts := X.1.2.2.2.2
  intro n
  induction n with
  | zero => intro M v3 H locs ls hf; cases hf
  | succ n ih =>
    intro M v3 H locs ls hf hG hl
    rw [f_X4_inOrder_L36] at hf
    refine lv_iload_n hx hb dX4_inOrder_36 rfl (lv_at hl 3 rfl) ?_
    refine lv_sipush (v := 300) hx hb dX4_inOrder_37 (by decide) ?_
    refine lv_icmp_ge (tgt := 73) hx hb dX4_inOrder_40 (by decide) (fun c1 => ?_) (fun c1 => ?_)
    · have hf := itep c1 hf
      exact w_X4_inOrder_L73 X hT hf hG (lv_sub hl [0, 1, 2] rfl)
    · have hf := iten c1 hf
      refine lv_aload_n hx hb dX4_inOrder_43 rfl (lv_at hl 0 rfl) ?_
      refine gf_X4_16 X hG hT dX4_inOrder_44 ?_
      obtain ⟨x2, hr3, hf⟩ := bd_some hf
      refine mw_callVi (rest := []) X hG hT.2.2.1.1 rfl (c_X3_eventsThatWait l dC dI cy a X.2.2.1 (this + 38) hT.2.2.1 M  hr3) (mw_cwV X 0 g_X4_111 hd_X3_eventsThatWait ⟨rfl, rfl⟩ ⟨Nat.le_of_ble_eq_true rfl, Nat.le_of_ble_eq_true rfl⟩) rfl hl.1 rfl (Nat.le_of_ble_eq_true rfl) dX4_inOrder_47 (fun H locs hG => ?_)
      refine lv_if_le (tgt := 73) hx hb dX4_inOrder_50 (by decide) (fun c4 => ?_) (fun c4 => ?_)
      · have hf := itep c4 hf
        exact w_X4_inOrder_L73 X hT hf hG (lv_sub hl [0, 1, 2] rfl)
      · have hf := iten c4 hf
        refine lv_aload_n hx hb dX4_inOrder_53 rfl (lv_at hl 0 rfl) ?_
        refine gf_X4_16 X hG hT dX4_inOrder_54 ?_
        refine lv_aload_n hx hb dX4_inOrder_57 rfl (lv_at hl 0 rfl) ?_
        refine gf_X4_16 X hG hT dX4_inOrder_58 ?_
        obtain ⟨x5, hr6, hf⟩ := bd_some hf
        refine mw_callVi (rest := [.ref (a (this + 38))]) X hG hT.2.2.1.1 rfl (c_X3_partOfLeastTime l dC dI cy a X.2.2.1 (this + 38) hT.2.2.1 M  hr6) (mw_cwV X 0 g_X4_222 hd_X3_partOfLeastTime ⟨rfl, rfl⟩ ⟨Nat.le_of_ble_eq_true rfl, Nat.le_of_ble_eq_true rfl⟩) rfl hl.1 rfl (Nat.le_of_ble_eq_true rfl) dX4_inOrder_61 (fun H locs hG => ?_)
        obtain ⟨M7, hr9, hf⟩ := bd_some hf
        refine mw_callVv (rest := []) X hG hT.2.2.1.1 rfl (c_X3_workOnFirst l dC dI cy a X.2.2.1 (this + 38) hT.2.2.1 M x5 hr9) (mw_cwV X 1 g_X4_225 hd_X3_workOnFirst ⟨rfl, rfl⟩ ⟨Nat.le_of_ble_eq_true rfl, Nat.le_of_ble_eq_true rfl⟩) rfl hl.1 rfl (Nat.le_of_ble_eq_true rfl) dX4_inOrder_64 (fun H locs hG => ?_)
        obtain ⟨x10, ex10⟩ : ∃ y : Int32, y = v3 + (1 : Int32) := ⟨_, rfl⟩
        have hf := nm_of ex10 hf
        refine lv_iinc (v := x10) (lv' := [(3, .int x10), (0, .ref (a this)), (1, .int v1), (2, .int v2)]) hx hb dX4_inOrder_67 hl (k := 3) rfl (by rw [ex10]; rfl) (by decide) rfl (fun ls hl => ?_)
        refine lv_goto (tgt := 36) hx hb dX4_inOrder_70 (by decide) ?_
        exact ih _ _ _ _ _ hf hG (lv_sub hl [1, 2, 3, 0] rfl)
set_option maxHeartbeats 4000000 in
set_option maxRecDepth 100000 in
theorem c_X4_inOrder (l : Launch) (dC : Nat → ClassId) (dI : Nat → Nat → Nat) (cy : Nat → ClassId) (a : Nat → Nat) (ha : injU a) (this : Nat) (hT : K4 this) (M : Mem) (v1 : Int32) (v2 : Int32) {o : (Int32 × Mem)} (hf : f_X4_inOrder M this v1 v2 = some o) : Met l yX4_inOrder (wsU yX4_inOrder cX4_inOrder 4 (some .int)) ({ frames := 4, cells := 0, slots := 0, locals := 97 } : Room) (PU dC dI cy a [.ref (a this), .int v1, .int v2] M) (QUi dC dI cy a o.1 o.2) 0 0 (AU a) := by
  refine mw_met (by decide) ha (Nat.le_of_ble_eq_true rfl) ?_
  intro p e s m below meth c ls X hG hl
  have hl : lv_has ls 4 [(0, .ref (a this)), (1, .int v1), (2, .int v2)] := hl
  have X : XU dC dI cy a p s m c [.ref (a this), .int v1, .int v2].toArray meth cX4_inOrder 4 RX4 (some .int) := X
  have hx := X.1.1
  have hb := X.1.2.1
  have hown := X.1.2.2.2.1
  have hts := X.1.2.2.2.2
  rw [f_X4_inOrder] at hf
  refine lv_aload_n hx hb dX4_inOrder_0 rfl (lv_at hl 0 rfl) ?_
  refine lv_iload_n hx hb dX4_inOrder_1 rfl (lv_at hl 1 rfl) ?_
  obtain ⟨x1, hr2, hf⟩ := bd_some hf
  refine mw_callVi (rest := []) X hG hT.1 rfl (c_X4_isNoPart l dC dI cy a X.2.2.1 this hT M v1 hr2) (mw_cwV X 1 g_X4_143 hd_X4_isNoPart ⟨rfl, rfl⟩ ⟨Nat.le_of_ble_eq_true rfl, Nat.le_of_ble_eq_true rfl⟩) rfl hl.1 rfl (Nat.le_of_ble_eq_true rfl) dX4_inOrder_2 (fun H locs hG => ?_)
  refine lv_if_eq (tgt := 11) hx hb dX4_inOrder_5 (by decide) (fun c3 => ?_) (fun c3 => ?_)
  · have hf := itep c3 hf
    refine lv_iload_n hx hb dX4_inOrder_11 rfl (lv_at hl 2 rfl) ?_
    refine lv_iconst (v := 0) hx hb dX4_inOrder_12 (by decide) ?_
    refine lv_iconst (v := 1) hx hb dX4_inOrder_13 (by decide) ?_
    obtain ⟨x4, hr5, hf⟩ := bd_some hf
    refine mw_callSi (rest := []) X hG (c_X4_isOutside l dC dI cy a X.2.2.1  M v2 (0 : Int32) (1 : Int32) hr5) (mw_cwS X 3 g_X4_38 hd_X4_isOutside ⟨rfl, rfl⟩ ⟨Nat.le_of_ble_eq_true rfl, Nat.le_of_ble_eq_true rfl⟩) rfl hl.1 rfl (Nat.le_of_ble_eq_true rfl) dX4_inOrder_14 (fun H locs hG => ?_)
    refine lv_if_eq (tgt := 23) hx hb dX4_inOrder_17 (by decide) (fun c6 => ?_) (fun c6 => ?_)
    · have hf := itep c6 hf
      refine lv_aload_n hx hb dX4_inOrder_23 rfl (lv_at hl 0 rfl) ?_
      refine gf_X4_16 X hG hT dX4_inOrder_24 ?_
      refine lv_aload_n hx hb dX4_inOrder_27 rfl (lv_at hl 0 rfl) ?_
      refine gf_X4_10 X hG hT dX4_inOrder_28 ?_
      obtain ⟨M7, hr9, hf⟩ := bd_some hf
      refine mw_callVv (rest := []) X hG hT.2.2.1.1 rfl (c_X3_copyFrom l dC dI cy a X.2.2.1 (this + 38) hT.2.2.1 M (this + 1) hT.2.1 hr9) (mw_cwV X 1 g_X4_218 hd_X3_copyFrom ⟨rfl, rfl⟩ ⟨Nat.le_of_ble_eq_true rfl, Nat.le_of_ble_eq_true rfl⟩) rfl hl.1 rfl (Nat.le_of_ble_eq_true rfl) dX4_inOrder_31 (fun H locs hG => ?_)
      refine lv_iconst (v := 0) hx hb dX4_inOrder_34 (by decide) ?_
      refine lv_istore_n (lv' := [(3, .int (0 : Int32)), (0, .ref (a this)), (1, .int v1), (2, .int v2)]) hx hb dX4_inOrder_35 rfl hl (by decide) rfl (fun ls hl => ?_)
      exact w_X4_inOrder_L36 X hT 1000 _ _ _ _ _ hf hG (lv_sub hl [1, 2, 3, 0] rfl)
    · have hf := iten c6 hf
      refine lv_ldc (v := -1000000002) hx hb hown (hts _ wd_ct_X4_42) dX4_inOrder_20 ?_
      obtain rfl := Option.some.inj hf
      exact mw_iret X hG dX4_inOrder_22
  · have hf := iten c3 hf
    refine lv_ldc (v := -1000000001) hx hb hown (hts _ wd_ct_X4_58) dX4_inOrder_8 ?_
    obtain rfl := Option.some.inj hf
    exact mw_iret X hG dX4_inOrder_10
