/-! X5_inOrder -/
set_option maxHeartbeats 4000000 in
set_option maxRecDepth 100000 in
theorem w_X5_inOrder_L119 {l : Launch} {dC : Nat → ClassId} {dI : Nat → Nat → Nat} {cy : Nat → ClassId} {a : Nat → Nat} {p : Program} {e : Env} {s : State} {m : MethodId} {args : Array Value} {below : List Frame} {meth : Method} {c : Code} (X : XU dC dI cy a p s m c args meth cX5_inOrder 8 RX5 (some .int)) {M : Mem} {this : Nat} (hT : K5 this) {v1 : Int32} {v2 : Int32} {v3 : Int32} {v4 : Int32} {v5 : Int32} {v6 : Int32} {o : (Int32 × Mem)} {k34 : Mem → Int32 → Option (Int32 × Mem)} (hk34 : ∀ (M : Mem) (v3 : Int32) (H : Heap) (locs : List Loc) (ls : Array Slot), k34 M v3 = some o → GU dC dI cy a s.heap M H locs → lv_has ls 8 [(0, .ref (a this)), (1, .int v1), (2, .int v2), (3, .int v3)] → W p l e ({ frames := 3, cells := 0, slots := 0, locals := 76 } : Room) s m args below meth c H locs 0 0 (MQ below (QUi dC dI cy a o.1 o.2) args s 0 0 (AU a)) (F0 m 34 ls [])) {k62 : Int32 → Int32 → Int32 → Option (Int32 × Mem)} (hk62 : ∀ (v4 : Int32) (v5 : Int32) (v6 : Int32) (H : Heap) (locs : List Loc) (ls : Array Slot), k62 v4 v5 v6 = some o → GU dC dI cy a s.heap M H locs → lv_has ls 8 [(0, .ref (a this)), (1, .int v1), (2, .int v2), (3, .int v3), (4, .int v4), (5, .int v5), (6, .int v6)] → W p l e ({ frames := 3, cells := 0, slots := 0, locals := 76 } : Room) s m args below meth c H locs 0 0 (MQ below (QUi dC dI cy a o.1 o.2) args s 0 0 (AU a)) (F0 m 62 ls [])) {H : Heap} {locs : List Loc} {ls : Array Slot} (hf : f_X5_inOrder_L119 k34 k62 M this v1 v2 v3 v4 v5 v6 = some o) (hG : GU dC dI cy a s.heap M H locs) (hl : lv_has ls 8 [(0, .ref (a this)), (1, .int v1), (2, .int v2), (3, .int v3), (4, .int v4), (5, .int v5), (6, .int v6)]) : W p l e ({ frames := 3, cells := 0, slots := 0, locals := 76 } : Room) s m args below meth c H locs 0 0 (MQ below (QUi dC dI cy a o.1 o.2) args s 0 0 (AU a)) (F0 m 119 ls []) := by
  have hx := X.1.1
  have hb := X.1.2.1
  have hown := X.1.2.2.2.1
  have hts := X.1.2.2.2.2
  rw [f_X5_inOrder_L119] at hf
  obtain ⟨x1, ex1⟩ : ∃ y : Int32, y = v6 + (1 : Int32) := ⟨_, rfl⟩
  have hf := nm_of ex1 hf
  refine lv_iinc (v := x1) (lv' := [(6, .int x1), (0, .ref (a this)), (1, .int v1), (2, .int v2), (3, .int v3), (4, .int v4), (5, .int v5)]) hx hb dX5_inOrder_119 hl (k := 6) rfl (by rw [ex1]; rfl) (by decide) rfl (fun ls hl => ?_)
  refine lv_goto (tgt := 62) hx hb dX5_inOrder_122 (by decide) ?_
  exact hk62 _ _ _ _ _ _ hf hG (lv_sub hl [1, 2, 3, 4, 5, 6, 0] rfl)
set_option maxHeartbeats 4000000 in
set_option maxRecDepth 100000 in
theorem w_X5_inOrder_L125 {l : Launch} {dC : Nat → ClassId} {dI : Nat → Nat → Nat} {cy : Nat → ClassId} {a : Nat → Nat} {p : Program} {e : Env} {s : State} {m : MethodId} {args : Array Value} {below : List Frame} {meth : Method} {c : Code} (X : XU dC dI cy a p s m c args meth cX5_inOrder 8 RX5 (some .int)) {M : Mem} {this : Nat} (hT : K5 this) {v1 : Int32} {v2 : Int32} {v3 : Int32} {v4 : Int32} {o : (Int32 × Mem)} {k34 : Mem → Int32 → Option (Int32 × Mem)} (hk34 : ∀ (M : Mem) (v3 : Int32) (H : Heap) (locs : List Loc) (ls : Array Slot), k34 M v3 = some o → GU dC dI cy a s.heap M H locs → lv_has ls 8 [(0, .ref (a this)), (1, .int v1), (2, .int v2), (3, .int v3)] → W p l e ({ frames := 3, cells := 0, slots := 0, locals := 76 } : Room) s m args below meth c H locs 0 0 (MQ below (QUi dC dI cy a o.1 o.2) args s 0 0 (AU a)) (F0 m 34 ls [])) {H : Heap} {locs : List Loc} {ls : Array Slot} (hf : f_X5_inOrder_L125 k34 M this v1 v2 v3 v4 = some o) (hG : GU dC dI cy a s.heap M H locs) (hl : lv_has ls 8 [(0, .ref (a this)), (1, .int v1), (2, .int v2), (3, .int v3), (4, .int v4)]) : W p l e ({ frames := 3, cells := 0, slots := 0, locals := 76 } : Room) s m args below meth c H locs 0 0 (MQ below (QUi dC dI cy a o.1 o.2) args s 0 0 (AU a)) (F0 m 125 ls []) := by
  have hx := X.1.1
  have hb := X.1.2.1
  have hown := X.1.2.2.2.1
  have hts := X.1.2.2.2.2
  rw [f_X5_inOrder_L125] at hf
  refine lv_aload_n hx hb dX5_inOrder_125 rfl (lv_at hl 0 rfl) ?_
  refine lv_sipush (v := 262) hx hb dX5_inOrder_126 (by decide) ?_
  refine lv_iload hx hb dX5_inOrder_129 (lv_at hl 4 rfl) ?_
  obtain ⟨M1, hr3, hf⟩ := bd_some hf
  refine mw_callVv (rest := []) X hG hT.1 rfl (c_X5_works l dC dI cy a X.2.2.1 this hT M (262 : Int32) v4 hr3) (mw_cwV X 2 g_X5_111 hd_X5_works ⟨rfl, rfl⟩ ⟨Nat.le_of_ble_eq_true rfl, Nat.le_of_ble_eq_true rfl⟩) rfl hl.1 rfl (Nat.le_of_ble_eq_true rfl) dX5_inOrder_131 (fun H locs hG => ?_)
  obtain ⟨x4, ex4⟩ : ∃ y : Int32, y = v3 + (1 : Int32) := ⟨_, rfl⟩
  have hf := nm_of ex4 hf
  refine lv_iinc (v := x4) (lv' := [(3, .int x4), (0, .ref (a this)), (1, .int v1), (2, .int v2), (4, .int v4)]) hx hb dX5_inOrder_134 hl (k := 3) rfl (by rw [ex4]; rfl) (by decide) rfl (fun ls hl => ?_)
  refine lv_goto (tgt := 34) hx hb dX5_inOrder_137 (by decide) ?_
  exact hk34 _ _ _ _ _ hf hG (lv_sub hl [1, 2, 3, 0] rfl)
set_option maxHeartbeats 4000000 in
set_option maxRecDepth 100000 in
theorem w_X5_inOrder_L62 {l : Launch} {dC : Nat → ClassId} {dI : Nat → Nat → Nat} {cy : Nat → ClassId} {a : Nat → Nat} {p : Program} {e : Env} {s : State} {m : MethodId} {args : Array Value} {below : List Frame} {meth : Method} {c : Code} (X : XU dC dI cy a p s m c args meth cX5_inOrder 8 RX5 (some .int)) {M : Mem} {this : Nat} (hT : K5 this) {v1 : Int32} {v2 : Int32} {v3 : Int32} {o : (Int32 × Mem)} {k34 : Mem → Int32 → Option (Int32 × Mem)} (hk34 : ∀ (M : Mem) (v3 : Int32) (H : Heap) (locs : List Loc) (ls : Array Slot), k34 M v3 = some o → GU dC dI cy a s.heap M H locs → lv_has ls 8 [(0, .ref (a this)), (1, .int v1), (2, .int v2), (3, .int v3)] → W p l e ({ frames := 3, cells := 0, slots := 0, locals := 76 } : Room) s m args below meth c H locs 0 0 (MQ below (QUi dC dI cy a o.1 o.2) args s 0 0 (AU a)) (F0 m 34 ls [])) : ∀ (n : Nat) (v4 : Int32) (v5 : Int32) (v6 : Int32) (H : Heap) (locs : List Loc) (ls : Array Slot), f_X5_inOrder_L62 k34 M this v1 v2 v3 n v4 v5 v6 = some o → GU dC dI cy a s.heap M H locs → lv_has ls 8 [(0, .ref (a this)), (1, .int v1), (2, .int v2), (3, .int v3), (4, .int v4), (5, .int v5), (6, .int v6)] → W p l e ({ frames := 3, cells := 0, slots := 0, locals := 76 } : Room) s m args below meth c H locs 0 0 (MQ below (QUi dC dI cy a o.1 o.2) args s 0 0 (AU a)) (F0 m 62 ls []) := by
  have hx := X.1.1
  have hb := X.1.2.1
  have hown := X.1.2.2.2.1
  have hts := X.1.2.2.2.2
  intro n
  induction n with
  | zero => intro v4 v5 v6 H locs ls hf; cases hf
  | succ n ih =>
    intro v4 v5 v6 H locs ls hf hG hl
    rw [f_X5_inOrder_L62] at hf
    refine lv_iload hx hb dX5_inOrder_62 (lv_at hl 6 rfl) ?_
    refine lv_aload_n hx hb dX5_inOrder_64 rfl (lv_at hl 0 rfl) ?_
    refine gf_X5_7 X hG hT dX5_inOrder_65 ?_
    refine lv_iconst (v := 0) hx hb dX5_inOrder_68 (by decide) ?_
    obtain ⟨hi1, hf⟩ := ck_some hf
    refine mw_iald X hG hT.2.1 hi1 dX5_inOrder_69 ?_
    refine lv_icmp_ge (tgt := 125) hx hb dX5_inOrder_70 (by decide) (fun c2 => ?_) (fun c2 => ?_)
    · have hf := itep c2 hf
      exact w_X5_inOrder_L125 X hT hk34 hf hG (lv_sub hl [0, 1, 2, 3, 4] rfl)
    · have hf := iten c2 hf
      refine lv_aload_n hx hb dX5_inOrder_73 rfl (lv_at hl 0 rfl) ?_
      refine lv_sipush (v := 262) hx hb dX5_inOrder_74 (by decide) ?_
      refine lv_iload hx hb dX5_inOrder_77 (lv_at hl 6 rfl) ?_
      obtain ⟨x3, hr4, hf⟩ := bd_some hf
      refine mw_callVi (rest := []) X hG hT.1 rfl (c_X5_firstOf l dC dI cy a X.2.2.1 this hT M (262 : Int32) v6 hr4) (mw_cwV X 2 g_X5_88 hd_X5_firstOf ⟨rfl, rfl⟩ ⟨Nat.le_of_ble_eq_true rfl, Nat.le_of_ble_eq_true rfl⟩) rfl hl.1 rfl (Nat.le_of_ble_eq_true rfl) dX5_inOrder_79 (fun H locs hG => ?_)
      refine lv_istore (lv' := [(7, .int x3), (0, .ref (a this)), (1, .int v1), (2, .int v2), (3, .int v3), (4, .int v4), (5, .int v5), (6, .int v6)]) hx hb dX5_inOrder_82 hl (by decide) rfl (fun ls hl => ?_)
      refine lv_iload hx hb dX5_inOrder_84 (lv_at hl 0 rfl) ?_
      refine lv_iconst (v := -1) hx hb dX5_inOrder_86 (by decide) ?_
      refine lv_icmp_eq (tgt := 119) hx hb dX5_inOrder_87 (by decide) (fun c5 => ?_) (fun c5 => ?_)
      · have hf := itep c5 hf
        exact w_X5_inOrder_L119 X hT hk34 ih hf hG (lv_sub hl [1, 2, 3, 4, 5, 6, 7] rfl)
      · have hf := iten c5 hf
        refine lv_aload_n hx hb dX5_inOrder_90 rfl (lv_at hl 1 rfl) ?_
        refine gf_X5_7 X hG hT dX5_inOrder_91 ?_
        refine lv_iload hx hb dX5_inOrder_94 (lv_at hl 0 rfl) ?_
        refine lv_iconst (v := 1) hx hb dX5_inOrder_96 (by decide) ?_
        refine lv_iadd hx hb dX5_inOrder_97 ?_
        obtain ⟨hi6, hf⟩ := ck_some hf
        refine mw_iald X hG hT.2.1 hi6 dX5_inOrder_98 ?_
        refine lv_iload hx hb dX5_inOrder_99 (lv_at hl 6 rfl) ?_
        refine lv_icmp_ge (tgt := 119) hx hb dX5_inOrder_101 (by decide) (fun c7 => ?_) (fun c7 => ?_)
        · have hf := itep c7 hf
          exact w_X5_inOrder_L119 X hT hk34 ih hf hG (lv_sub hl [1, 2, 3, 4, 5, 6, 7] rfl)
        · have hf := iten c7 hf
          refine lv_iload hx hb dX5_inOrder_104 (lv_at hl 0 rfl) ?_
          refine lv_istore (lv' := [(4, .int x3), (7, .int x3), (0, .ref (a this)), (1, .int v1), (2, .int v2), (3, .int v3), (5, .int v5), (6, .int v6)]) hx hb dX5_inOrder_106 hl (by decide) rfl (fun ls hl => ?_)
          refine lv_aload_n hx hb dX5_inOrder_108 rfl (lv_at hl 2 rfl) ?_
          refine gf_X5_7 X hG hT dX5_inOrder_109 ?_
          refine lv_iload hx hb dX5_inOrder_112 (lv_at hl 1 rfl) ?_
          refine lv_iconst (v := 1) hx hb dX5_inOrder_114 (by decide) ?_
          refine lv_iadd hx hb dX5_inOrder_115 ?_
          obtain ⟨hi8, hf⟩ := ck_some hf
          refine mw_iald X hG hT.2.1 hi8 dX5_inOrder_116 ?_
          refine lv_topi (fun x9 ex9 => ?_)
          have hf := nm_of ex9 hf
          refine lv_istore (lv' := [(5, .int x9), (4, .int x3), (7, .int x3), (0, .ref (a this)), (1, .int v1), (2, .int v2), (3, .int v3), (6, .int v6)]) hx hb dX5_inOrder_117 hl (by decide) rfl (fun ls hl => ?_)
          exact w_X5_inOrder_L119 X hT hk34 ih hf hG (lv_sub hl [3, 4, 5, 6, 1, 0, 7] rfl)
set_option maxHeartbeats 4000000 in
set_option maxRecDepth 100000 in
theorem w_X5_inOrder_L158 {l : Launch} {dC : Nat → ClassId} {dI : Nat → Nat → Nat} {cy : Nat → ClassId} {a : Nat → Nat} {p : Program} {e : Env} {s : State} {m : MethodId} {args : Array Value} {below : List Frame} {meth : Method} {c : Code} (X : XU dC dI cy a p s m c args meth cX5_inOrder 8 RX5 (some .int)) {M : Mem} {this : Nat} (hT : K5 this) {v1 : Int32} {s0 : Int32} {s1 : Int32} {o : (Int32 × Mem)} {H : Heap} {locs : List Loc} {ls : Array Slot} (hf : f_X5_inOrder_L158 M this v1 s0 s1 = some o) (hG : GU dC dI cy a s.heap M H locs) (hl : lv_has ls 8 [(0, .ref (a this)), (1, .int v1)]) : W p l e ({ frames := 3, cells := 0, slots := 0, locals := 76 } : Room) s m args below meth c H locs 0 0 (MQ below (QUi dC dI cy a o.1 o.2) args s 0 0 (AU a)) (F0 m 158 ls [.int s0, .int s1, .ref (a (this + 1))]) := by
  have hx := X.1.1
  have hb := X.1.2.1
  have hown := X.1.2.2.2.1
  have hts := X.1.2.2.2.2
  rw [f_X5_inOrder_L158] at hf
  refine lv_iadd hx hb dX5_inOrder_158 ?_
  refine lv_iload_n hx hb dX5_inOrder_159 rfl (lv_at hl 1 rfl) ?_
  refine lv_iadd hx hb dX5_inOrder_160 ?_
  obtain ⟨hi1, hf⟩ := ck_some hf
  refine mw_iald X hG hT.2.1 hi1 dX5_inOrder_161 ?_
  obtain rfl := Option.some.inj hf
  exact mw_iret X hG dX5_inOrder_162
set_option maxHeartbeats 4000000 in
set_option maxRecDepth 100000 in
theorem w_X5_inOrder_L140 {l : Launch} {dC : Nat → ClassId} {dI : Nat → Nat → Nat} {cy : Nat → ClassId} {a : Nat → Nat} {p : Program} {e : Env} {s : State} {m : MethodId} {args : Array Value} {below : List Frame} {meth : Method} {c : Code} (X : XU dC dI cy a p s m c args meth cX5_inOrder 8 RX5 (some .int)) {M : Mem} {this : Nat} (hT : K5 this) {v1 : Int32} {v2 : Int32} {o : (Int32 × Mem)} {H : Heap} {locs : List Loc} {ls : Array Slot} (hf : f_X5_inOrder_L140 M this v1 v2 = some o) (hG : GU dC dI cy a s.heap M H locs) (hl : lv_has ls 8 [(0, .ref (a this)), (1, .int v1), (2, .int v2)]) : W p l e ({ frames := 3, cells := 0, slots := 0, locals := 76 } : Room) s m args below meth c H locs 0 0 (MQ below (QUi dC dI cy a o.1 o.2) args s 0 0 (AU a)) (F0 m 140 ls []) := by
  have hx := X.1.1
  have hb := X.1.2.1
  have hown := X.1.2.2.2.1
  have hts := X.1.2.2.2.2
  rw [f_X5_inOrder_L140] at hf
  refine lv_aload_n hx hb dX5_inOrder_140 rfl (lv_at hl 0 rfl) ?_
  refine gf_X5_7 X hG hT dX5_inOrder_141 ?_
  refine lv_sipush (v := 262) hx hb dX5_inOrder_144 (by decide) ?_
  refine lv_iload_n hx hb dX5_inOrder_147 rfl (lv_at hl 2 rfl) ?_
  refine lv_if_ne (tgt := 156) hx hb dX5_inOrder_148 (by decide) (fun c1 => ?_) (fun c1 => ?_)
  · have hf := iten c1 hf
    refine lv_bipush (v := 16) hx hb dX5_inOrder_156 (by decide) ?_
    exact w_X5_inOrder_L158 X hT hf hG (lv_sub hl [0, 1] rfl)
  · have hf := itep c1 hf
    refine lv_bipush (v := 10) hx hb dX5_inOrder_151 (by decide) ?_
    refine lv_goto (tgt := 158) hx hb dX5_inOrder_153 (by decide) ?_
    exact w_X5_inOrder_L158 X hT hf hG (lv_sub hl [0, 1] rfl)
set_option maxHeartbeats 4000000 in
set_option maxRecDepth 100000 in
theorem w_X5_inOrder_L34 {l : Launch} {dC : Nat → ClassId} {dI : Nat → Nat → Nat} {cy : Nat → ClassId} {a : Nat → Nat} {p : Program} {e : Env} {s : State} {m : MethodId} {args : Array Value} {below : List Frame} {meth : Method} {c : Code} (X : XU dC dI cy a p s m c args meth cX5_inOrder 8 RX5 (some .int)) {this : Nat} (hT : K5 this) {v1 : Int32} {v2 : Int32} {o : (Int32 × Mem)} : ∀ (n : Nat) (M : Mem) (v3 : Int32) (H : Heap) (locs : List Loc) (ls : Array Slot), f_X5_inOrder_L34 this v1 v2 n M v3 = some o → GU dC dI cy a s.heap M H locs → lv_has ls 8 [(0, .ref (a this)), (1, .int v1), (2, .int v2), (3, .int v3)] → W p l e ({ frames := 3, cells := 0, slots := 0, locals := 76 } : Room) s m args below meth c H locs 0 0 (MQ below (QUi dC dI cy a o.1 o.2) args s 0 0 (AU a)) (F0 m 34 ls []) := by
  have hx := X.1.1
  have hb := X.1.2.1
  have hown := X.1.2.2.2.1
  have hts := X.1.2.2.2.2
  intro n
  induction n with
  | zero => intro M v3 H locs ls hf; cases hf
  | succ n ih =>
    intro M v3 H locs ls hf hG hl
    rw [f_X5_inOrder_L34] at hf
    refine lv_iload_n hx hb dX5_inOrder_34 rfl (lv_at hl 3 rfl) ?_
    refine lv_sipush (v := 300) hx hb dX5_inOrder_35 (by decide) ?_
    refine lv_icmp_ge (tgt := 140) hx hb dX5_inOrder_38 (by decide) (fun c1 => ?_) (fun c1 => ?_)
    · have hf := itep c1 hf
      exact w_X5_inOrder_L140 X hT hf hG (lv_sub hl [0, 1, 2] rfl)
    · have hf := iten c1 hf
      refine lv_aload_n hx hb dX5_inOrder_41 rfl (lv_at hl 0 rfl) ?_
      refine gf_X5_7 X hG hT dX5_inOrder_42 ?_
      refine lv_sipush (v := 271) hx hb dX5_inOrder_45 (by decide) ?_
      obtain ⟨hi2, hf⟩ := ck_some hf
      refine mw_iald X hG hT.2.1 hi2 dX5_inOrder_48 ?_
      refine lv_if_le (tgt := 140) hx hb dX5_inOrder_49 (by decide) (fun c3 => ?_) (fun c3 => ?_)
      · have hf := itep c3 hf
        exact w_X5_inOrder_L140 X hT hf hG (lv_sub hl [0, 1, 2] rfl)
      · have hf := iten c3 hf
        refine lv_iconst (v := -1) hx hb dX5_inOrder_52 (by decide) ?_
        refine lv_istore (lv' := [(4, .int (-1 : Int32)), (0, .ref (a this)), (1, .int v1), (2, .int v2), (3, .int v3)]) hx hb dX5_inOrder_53 hl (by decide) rfl (fun ls hl => ?_)
        refine lv_ldc (v := 99999999) hx hb hown (hts _ wd_ct_X5_91) dX5_inOrder_55 ?_
        refine lv_istore (lv' := [(5, .int (99999999 : Int32)), (4, .int (-1 : Int32)), (0, .ref (a this)), (1, .int v1), (2, .int v2), (3, .int v3)]) hx hb dX5_inOrder_57 hl (by decide) rfl (fun ls hl => ?_)
        refine lv_iconst (v := 0) hx hb dX5_inOrder_59 (by decide) ?_
        refine lv_istore (lv' := [(6, .int (0 : Int32)), (5, .int (99999999 : Int32)), (4, .int (-1 : Int32)), (0, .ref (a this)), (1, .int v1), (2, .int v2), (3, .int v3)]) hx hb dX5_inOrder_60 hl (by decide) rfl (fun ls hl => ?_)
        exact w_X5_inOrder_L62 X hT ih 1000 _ _ _ _ _ _ hf hG (lv_sub hl [3, 4, 5, 6, 2, 1, 0] rfl)
set_option maxHeartbeats 4000000 in
set_option maxRecDepth 100000 in
theorem c_X5_inOrder (l : Launch) (dC : Nat → ClassId) (dI : Nat → Nat → Nat) (cy : Nat → ClassId) (a : Nat → Nat) (ha : injU a) (this : Nat) (hT : K5 this) (M : Mem) (v1 : Int32) (v2 : Int32) {o : (Int32 × Mem)} (hf : f_X5_inOrder M this v1 v2 = some o) : Met l yX5_inOrder (wsU yX5_inOrder cX5_inOrder 8 (some .int)) ({ frames := 3, cells := 0, slots := 0, locals := 76 } : Room) (PU dC dI cy a [.ref (a this), .int v1, .int v2] M) (QUi dC dI cy a o.1 o.2) 0 0 (AU a) := by
  refine mw_met (by decide) ha (Nat.le_of_ble_eq_true rfl) ?_
  intro p e s m below meth c ls X hG hl
  have hl : lv_has ls 8 [(0, .ref (a this)), (1, .int v1), (2, .int v2)] := hl
  have X : XU dC dI cy a p s m c [.ref (a this), .int v1, .int v2].toArray meth cX5_inOrder 8 RX5 (some .int) := X
  have hx := X.1.1
  have hb := X.1.2.1
  have hown := X.1.2.2.2.1
  have hts := X.1.2.2.2.2
  rw [f_X5_inOrder] at hf
  refine lv_aload_n hx hb dX5_inOrder_0 rfl (lv_at hl 0 rfl) ?_
  refine lv_iload_n hx hb dX5_inOrder_1 rfl (lv_at hl 1 rfl) ?_
  obtain ⟨x1, hr2, hf⟩ := bd_some hf
  refine mw_callVi (rest := []) X hG hT.1 rfl (c_X5_isPart l dC dI cy a X.2.2.1 this hT M v1 hr2) (mw_cwV X 1 g_X5_38 hd_X5_isPart ⟨rfl, rfl⟩ ⟨Nat.le_of_ble_eq_true rfl, Nat.le_of_ble_eq_true rfl⟩) rfl hl.1 rfl (Nat.le_of_ble_eq_true rfl) dX5_inOrder_2 (fun H locs hG => ?_)
  refine lv_if_ne (tgt := 11) hx hb dX5_inOrder_5 (by decide) (fun c3 => ?_) (fun c3 => ?_)
  · have hf := iten c3 hf
    refine lv_iload_n hx hb dX5_inOrder_11 rfl (lv_at hl 2 rfl) ?_
    refine lv_i2l (v := v2.toInt64) hx hb dX5_inOrder_12 rfl ?_
    refine lv_lconst (v := 0) hx hb dX5_inOrder_13 (by decide) ?_
    refine lv_lconst (v := 1) hx hb dX5_inOrder_14 (by decide) ?_
    obtain ⟨x4, hr5, hf⟩ := bd_some hf
    refine mw_callSi (rest := []) X hG (c_X5_in l dC dI cy a X.2.2.1  M (v2.toInt64) (0 : Int64) (1 : Int64) hr5) (mw_cwS X 3 g_X5_23 hd_X5_in ⟨rfl, rfl⟩ ⟨Nat.le_of_ble_eq_true rfl, Nat.le_of_ble_eq_true rfl⟩) rfl hl.1 rfl (Nat.le_of_ble_eq_true rfl) dX5_inOrder_15 (fun H locs hG => ?_)
    refine lv_if_ne (tgt := 24) hx hb dX5_inOrder_18 (by decide) (fun c6 => ?_) (fun c6 => ?_)
    · have hf := iten c6 hf
      refine lv_aload_n hx hb dX5_inOrder_24 rfl (lv_at hl 0 rfl) ?_
      refine lv_iconst (v := 0) hx hb dX5_inOrder_25 (by decide) ?_
      refine lv_sipush (v := 262) hx hb dX5_inOrder_26 (by decide) ?_
      obtain ⟨M7, hr9, hf⟩ := bd_some hf
      refine mw_callVv (rest := []) X hG hT.1 rfl (c_X5_copy l dC dI cy a X.2.2.1 this hT M (0 : Int32) (262 : Int32) hr9) (mw_cwV X 2 g_X5_160 hd_X5_copy ⟨rfl, rfl⟩ ⟨Nat.le_of_ble_eq_true rfl, Nat.le_of_ble_eq_true rfl⟩) rfl hl.1 rfl (Nat.le_of_ble_eq_true rfl) dX5_inOrder_29 (fun H locs hG => ?_)
      refine lv_iconst (v := 0) hx hb dX5_inOrder_32 (by decide) ?_
      refine lv_istore_n (lv' := [(3, .int (0 : Int32)), (0, .ref (a this)), (1, .int v1), (2, .int v2)]) hx hb dX5_inOrder_33 rfl hl (by decide) rfl (fun ls hl => ?_)
      exact w_X5_inOrder_L34 X hT 1000 _ _ _ _ _ hf hG (lv_sub hl [1, 2, 3, 0] rfl)
    · have hf := itep c6 hf
      refine lv_ldc (v := -1000000002) hx hb hown (hts _ wd_ct_X5_29) dX5_inOrder_21 ?_
      obtain rfl := Option.some.inj hf
      exact mw_iret X hG dX5_inOrder_23
  · have hf := itep c3 hf
    refine lv_ldc (v := -1000000001) hx hb hown (hts _ wd_ct_X5_42) dX5_inOrder_8 ?_
    obtain rfl := Option.some.inj hf
    exact mw_iret X hG dX5_inOrder_10
/-! X5_keep -/
set_option maxHeartbeats 4000000 in
set_option maxRecDepth 100000 in
theorem c_X5_keep (l : Launch) (dC : Nat → ClassId) (dI : Nat → Nat → Nat) (cy : Nat → ClassId) (a : Nat → Nat) (ha : injU a) (this : Nat) (hT : K5 this) (M : Mem) (v1 : Int32) {o : (Int32 × Mem)} (hf : f_X5_keep M this v1 = some o) : Met l yX5_keep (wsU yX5_keep cX5_keep 2 (some .int)) ({ frames := 1, cells := 0, slots := 0, locals := 25 } : Room) (PU dC dI cy a [.ref (a this), .int v1] M) (QUi dC dI cy a o.1 o.2) 0 0 (AU a) := by
  refine mw_met (by decide) ha (Nat.le_of_ble_eq_true rfl) ?_
  intro p e s m below meth c ls X hG hl
  have hl : lv_has ls 2 [(0, .ref (a this)), (1, .int v1)] := hl
  have X : XU dC dI cy a p s m c [.ref (a this), .int v1].toArray meth cX5_keep 2 RX5 (some .int) := X
  have hx := X.1.1
  have hb := X.1.2.1
  have hown := X.1.2.2.2.1
  have hts := X.1.2.2.2.2
  rw [f_X5_keep] at hf
  refine lv_iload_n hx hb dX5_keep_0 rfl (lv_at hl 1 rfl) ?_
  refine lv_i2l (v := v1.toInt64) hx hb dX5_keep_1 rfl ?_
  refine lv_lconst (v := 0) hx hb dX5_keep_2 (by decide) ?_
  refine lv_lconst (v := 1) hx hb dX5_keep_3 (by decide) ?_
  obtain ⟨x1, hr2, hf⟩ := bd_some hf
  refine mw_callSi (rest := []) X hG (c_X5_in l dC dI cy a X.2.2.1  M (v1.toInt64) (0 : Int64) (1 : Int64) hr2) (mw_cwS X 3 g_X5_23 hd_X5_in ⟨rfl, rfl⟩ ⟨Nat.le_of_ble_eq_true rfl, Nat.le_of_ble_eq_true rfl⟩) rfl hl.1 rfl (Nat.le_of_ble_eq_true rfl) dX5_keep_4 (fun H locs hG => ?_)
  refine lv_if_ne (tgt := 13) hx hb dX5_keep_7 (by decide) (fun c3 => ?_) (fun c3 => ?_)
  · have hf := iten c3 hf
    refine lv_aload_n hx hb dX5_keep_13 rfl (lv_at hl 0 rfl) ?_
    refine lv_iconst (v := 0) hx hb dX5_keep_14 (by decide) ?_
    refine lv_sipush (v := 524) hx hb dX5_keep_15 (by decide) ?_
    refine lv_sipush (v := 262) hx hb dX5_keep_18 (by decide) ?_
    refine lv_iload_n hx hb dX5_keep_21 rfl (lv_at hl 1 rfl) ?_
    refine lv_imul hx hb dX5_keep_22 ?_
    refine lv_iadd hx hb dX5_keep_23 ?_
    obtain ⟨M4, hr6, hf⟩ := bd_some hf
    refine mw_callVv (rest := []) X hG hT.1 rfl (c_X5_copy l dC dI cy a X.2.2.1 this hT M (0 : Int32) ((524 : Int32) + ((262 : Int32) * v1)) hr6) (mw_cwV X 2 g_X5_160 hd_X5_copy ⟨rfl, rfl⟩ ⟨Nat.le_of_ble_eq_true rfl, Nat.le_of_ble_eq_true rfl⟩) rfl hl.1 rfl (Nat.le_of_ble_eq_true rfl) dX5_keep_24 (fun H locs hG => ?_)
    refine lv_aload_n hx hb dX5_keep_27 rfl (lv_at hl 0 rfl) ?_
    refine gf_X5_13 X hG hT dX5_keep_28 ?_
    refine lv_iload_n hx hb dX5_keep_31 rfl (lv_at hl 1 rfl) ?_
    refine lv_iconst (v := 1) hx hb dX5_keep_32 (by decide) ?_
    obtain ⟨hi7, hf⟩ := ck_some hf
    refine mw_zast X hG hT.2.2.1 (by decide) (by decide) hi7 dX5_keep_33 (fun M8 H locs eM8 hG => ?_)
    have hf := nm_of eM8 hf
    refine lv_iconst (v := 1) hx hb dX5_keep_34 (by decide) ?_
    obtain rfl := Option.some.inj hf
    exact mw_iret X hG dX5_keep_35
  · have hf := itep c3 hf
    refine lv_ldc (v := -1000000001) hx hb hown (hts _ wd_ct_X5_42) dX5_keep_10 ?_
    obtain rfl := Option.some.inj hf
    exact mw_iret X hG dX5_keep_12
/-! X5_goBack -/
set_option maxHeartbeats 4000000 in
set_option maxRecDepth 100000 in
theorem c_X5_goBack (l : Launch) (dC : Nat → ClassId) (dI : Nat → Nat → Nat) (cy : Nat → ClassId) (a : Nat → Nat) (ha : injU a) (this : Nat) (hT : K5 this) (M : Mem) (v1 : Int32) {o : (Int32 × Mem)} (hf : f_X5_goBack M this v1 = some o) : Met l yX5_goBack (wsU yX5_goBack cX5_goBack 2 (some .int)) ({ frames := 1, cells := 0, slots := 0, locals := 25 } : Room) (PU dC dI cy a [.ref (a this), .int v1] M) (QUi dC dI cy a o.1 o.2) 0 0 (AU a) := by
  refine mw_met (by decide) ha (Nat.le_of_ble_eq_true rfl) ?_
  intro p e s m below meth c ls X hG hl
  have hl : lv_has ls 2 [(0, .ref (a this)), (1, .int v1)] := hl
  have X : XU dC dI cy a p s m c [.ref (a this), .int v1].toArray meth cX5_goBack 2 RX5 (some .int) := X
  have hx := X.1.1
  have hb := X.1.2.1
  have hown := X.1.2.2.2.1
  have hts := X.1.2.2.2.2
  rw [f_X5_goBack] at hf
  refine lv_iload_n hx hb dX5_goBack_0 rfl (lv_at hl 1 rfl) ?_
  refine lv_i2l (v := v1.toInt64) hx hb dX5_goBack_1 rfl ?_
  refine lv_lconst (v := 0) hx hb dX5_goBack_2 (by decide) ?_
  refine lv_lconst (v := 1) hx hb dX5_goBack_3 (by decide) ?_
  obtain ⟨x1, hr2, hf⟩ := bd_some hf
  refine mw_callSi (rest := []) X hG (c_X5_in l dC dI cy a X.2.2.1  M (v1.toInt64) (0 : Int64) (1 : Int64) hr2) (mw_cwS X 3 g_X5_23 hd_X5_in ⟨rfl, rfl⟩ ⟨Nat.le_of_ble_eq_true rfl, Nat.le_of_ble_eq_true rfl⟩) rfl hl.1 rfl (Nat.le_of_ble_eq_true rfl) dX5_goBack_4 (fun H locs hG => ?_)
  refine lv_if_ne (tgt := 13) hx hb dX5_goBack_7 (by decide) (fun c3 => ?_) (fun c3 => ?_)
  · have hf := iten c3 hf
    refine lv_aload_n hx hb dX5_goBack_13 rfl (lv_at hl 0 rfl) ?_
    refine gf_X5_13 X hG hT dX5_goBack_14 ?_
    refine lv_iload_n hx hb dX5_goBack_17 rfl (lv_at hl 1 rfl) ?_
    obtain ⟨hi4, hf⟩ := ck_some hf
    refine mw_zald X hG hT.2.2.1 (by decide) hi4 dX5_goBack_18 ?_
    refine lv_if_ne (tgt := 25) hx hb dX5_goBack_19 (by decide) (fun c5 => ?_) (fun c5 => ?_)
    · have hf := iten c5 hf
      refine lv_aload_n hx hb dX5_goBack_25 rfl (lv_at hl 0 rfl) ?_
      refine lv_sipush (v := 524) hx hb dX5_goBack_26 (by decide) ?_
      refine lv_sipush (v := 262) hx hb dX5_goBack_29 (by decide) ?_
      refine lv_iload_n hx hb dX5_goBack_32 rfl (lv_at hl 1 rfl) ?_
      refine lv_imul hx hb dX5_goBack_33 ?_
      refine lv_iadd hx hb dX5_goBack_34 ?_
      refine lv_iconst (v := 0) hx hb dX5_goBack_35 (by decide) ?_
      obtain ⟨M6, hr8, hf⟩ := bd_some hf
      refine mw_callVv (rest := []) X hG hT.1 rfl (c_X5_copy l dC dI cy a X.2.2.1 this hT M ((524 : Int32) + ((262 : Int32) * v1)) (0 : Int32) hr8) (mw_cwV X 2 g_X5_160 hd_X5_copy ⟨rfl, rfl⟩ ⟨Nat.le_of_ble_eq_true rfl, Nat.le_of_ble_eq_true rfl⟩) rfl hl.1 rfl (Nat.le_of_ble_eq_true rfl) dX5_goBack_36 (fun H locs hG => ?_)
      refine lv_iconst (v := 1) hx hb dX5_goBack_39 (by decide) ?_
      obtain rfl := Option.some.inj hf
      exact mw_iret X hG dX5_goBack_40
    · have hf := itep c5 hf
      refine lv_ldc (v := -1000000003) hx hb hown (hts _ wd_ct_X5_48) dX5_goBack_22 ?_
      obtain rfl := Option.some.inj hf
      exact mw_iret X hG dX5_goBack_24
  · have hf := itep c3 hf
    refine lv_ldc (v := -1000000001) hx hb hown (hts _ wd_ct_X5_42) dX5_goBack_10 ?_
    obtain rfl := Option.some.inj hf
    exact mw_iret X hG dX5_goBack_12
