/-! X5_empties -/
set_option maxHeartbeats 4000000 in
set_option maxRecDepth 100000 in
theorem w_X5_empties_L214 {l : Launch} {dC : Nat → ClassId} {dI : Nat → Nat → Nat} {cy : Nat → ClassId} {a : Nat → Nat} {p : Program} {e : Env} {s : State} {m : MethodId} {args : Array Value} {below : List Frame} {meth : Method} {c : Code} (X : XU dC dI cy a p s m c args meth cX5_empties 11 RX5 (some .int)) {M : Mem} {this : Nat} (hT : K5 this) {v1 : Int32} {v4 : Int32} {v5 : Int32} {v6 : Int32} {o : (Int32 × Mem)} {k31 : Mem → Int32 → Int32 → Option (Int32 × Mem)} (hk31 : ∀ (M : Mem) (v5 : Int32) (v6 : Int32) (H : Heap) (locs : List Loc) (ls : Array Slot), k31 M v5 v6 = some o → GU dC dI cy a s.heap M H locs → lv_has ls 11 [(0, .ref (a this)), (1, .int v1), (4, .int v4), (5, .int v5), (6, .int v6)] → W p l e ({ frames := 4, cells := 0, slots := 0, locals := 91 } : Room) s m args below meth c H locs 0 0 (MQ below (QUi dC dI cy a o.1 o.2) args s 0 0 (AU a)) (F0 m 31 ls [])) {H : Heap} {locs : List Loc} {ls : Array Slot} (hf : f_X5_empties_L214 k31 M this v1 v4 v5 v6 = some o) (hG : GU dC dI cy a s.heap M H locs) (hl : lv_has ls 11 [(0, .ref (a this)), (1, .int v1), (4, .int v4), (5, .int v5), (6, .int v6)]) : W p l e ({ frames := 4, cells := 0, slots := 0, locals := 91 } : Room) s m args below meth c H locs 0 0 (MQ below (QUi dC dI cy a o.1 o.2) args s 0 0 (AU a)) (F0 m 214 ls []) := by
  have hx := X.1.1
  have hb := X.1.2.1
  have hown := X.1.2.2.2.1
  have hts := X.1.2.2.2.2
  rw [f_X5_empties_L214] at hf
  obtain ⟨x1, ex1⟩ : ∃ y : Int32, y = v6 + (1 : Int32) := ⟨_, rfl⟩
  have hf := nm_of ex1 hf
  refine lv_iinc (v := x1) (lv' := [(6, .int x1), (0, .ref (a this)), (1, .int v1), (4, .int v4), (5, .int v5)]) hx hb dX5_empties_214 hl (k := 4) rfl (by rw [ex1]; rfl) (by decide) rfl (fun ls hl => ?_)
  refine lv_goto (tgt := 31) hx hb dX5_empties_217 (by decide) ?_
  exact hk31 _ _ _ _ _ _ hf hG (lv_sub hl [1, 2, 3, 4, 0] rfl)
set_option maxHeartbeats 4000000 in
set_option maxRecDepth 100000 in
theorem w_X5_empties_L142 {l : Launch} {dC : Nat → ClassId} {dI : Nat → Nat → Nat} {cy : Nat → ClassId} {a : Nat → Nat} {p : Program} {e : Env} {s : State} {m : MethodId} {args : Array Value} {below : List Frame} {meth : Method} {c : Code} (X : XU dC dI cy a p s m c args meth cX5_empties 11 RX5 (some .int)) {M : Mem} {this : Nat} (hT : K5 this) {v1 : Int32} {v4 : Int32} {v5 : Int32} {v6 : Int32} {v7 : Int32} {v8 : Int32} {s0 : Int32} {o : (Int32 × Mem)} {k31 : Mem → Int32 → Int32 → Option (Int32 × Mem)} (hk31 : ∀ (M : Mem) (v5 : Int32) (v6 : Int32) (H : Heap) (locs : List Loc) (ls : Array Slot), k31 M v5 v6 = some o → GU dC dI cy a s.heap M H locs → lv_has ls 11 [(0, .ref (a this)), (1, .int v1), (4, .int v4), (5, .int v5), (6, .int v6)] → W p l e ({ frames := 4, cells := 0, slots := 0, locals := 91 } : Room) s m args below meth c H locs 0 0 (MQ below (QUi dC dI cy a o.1 o.2) args s 0 0 (AU a)) (F0 m 31 ls [])) {H : Heap} {locs : List Loc} {ls : Array Slot} (hf : f_X5_empties_L142 k31 M this v1 v4 v5 v6 v7 v8 s0 = some o) (hG : GU dC dI cy a s.heap M H locs) (hl : lv_has ls 11 [(0, .ref (a this)), (1, .int v1), (4, .int v4), (5, .int v5), (6, .int v6), (7, .int v7), (8, .int v8)]) : W p l e ({ frames := 4, cells := 0, slots := 0, locals := 91 } : Room) s m args below meth c H locs 0 0 (MQ below (QUi dC dI cy a o.1 o.2) args s 0 0 (AU a)) (F0 m 142 ls [.int s0]) := by
  have hx := X.1.1
  have hb := X.1.2.1
  have hown := X.1.2.2.2.1
  have hts := X.1.2.2.2.2
  rw [f_X5_empties_L142] at hf
  refine lv_istore (lv' := [(10, .int s0), (0, .ref (a this)), (1, .int v1), (4, .int v4), (5, .int v5), (6, .int v6), (7, .int v7), (8, .int v8)]) hx hb dX5_empties_142 hl (by decide) rfl (fun ls hl => ?_)
  refine lv_aload_n hx hb dX5_empties_144 rfl (lv_at hl 1 rfl) ?_
  refine gf_X5_7 X hG hT dX5_empties_145 ?_
  refine lv_iload hx hb dX5_empties_148 (lv_at hl 6 rfl) ?_
  refine lv_iconst (v := 0) hx hb dX5_empties_150 (by decide) ?_
  refine lv_iadd hx hb dX5_empties_151 ?_
  obtain ⟨hi1, hf⟩ := ck_some hf
  refine mw_iald X hG hT.2.1 hi1 dX5_empties_152 ?_
  refine lv_iload_n hx hb dX5_empties_153 rfl (lv_at hl 2 rfl) ?_
  refine lv_icmp_ne (tgt := 214) hx hb dX5_empties_154 (by decide) (fun c2 => ?_) (fun c2 => ?_)
  · have hf := iten c2 hf
    exact w_X5_empties_L214 X hT hk31 hf hG (lv_sub hl [1, 2, 3, 4, 5] rfl)
  · have hf := itep c2 hf
    refine lv_aload_n hx hb dX5_empties_157 rfl (lv_at hl 1 rfl) ?_
    refine gf_X5_7 X hG hT dX5_empties_158 ?_
    refine lv_iload hx hb dX5_empties_161 (lv_at hl 6 rfl) ?_
    refine lv_iconst (v := 4) hx hb dX5_empties_163 (by decide) ?_
    refine lv_iadd hx hb dX5_empties_164 ?_
    obtain ⟨hi3, hf⟩ := ck_some hf
    refine mw_iald X hG hT.2.1 hi3 dX5_empties_165 ?_
    refine lv_iload hx hb dX5_empties_166 (lv_at hl 7 rfl) ?_
    refine lv_icmp_ge (tgt := 214) hx hb dX5_empties_168 (by decide) (fun c4 => ?_) (fun c4 => ?_)
    · have hf := itep c4 hf
      exact w_X5_empties_L214 X hT hk31 hf hG (lv_sub hl [1, 2, 3, 4, 5] rfl)
    · have hf := iten c4 hf
      refine lv_iload hx hb dX5_empties_171 (lv_at hl 0 rfl) ?_
      refine lv_if_eq (tgt := 214) hx hb dX5_empties_173 (by decide) (fun c5 => ?_) (fun c5 => ?_)
      · have hf := itep c5 hf
        exact w_X5_empties_L214 X hT hk31 hf hG (lv_sub hl [1, 2, 3, 4, 5] rfl)
      · have hf := iten c5 hf
        refine lv_aload_n hx hb dX5_empties_176 rfl (lv_at hl 1 rfl) ?_
        refine gf_X5_7 X hG hT dX5_empties_177 ?_
        refine lv_iload hx hb dX5_empties_180 (lv_at hl 6 rfl) ?_
        refine lv_iconst (v := 4) hx hb dX5_empties_182 (by decide) ?_
        refine lv_iadd hx hb dX5_empties_183 ?_
        refine lv_iload hx hb dX5_empties_184 (lv_at hl 7 rfl) ?_
        obtain ⟨hi6, hf⟩ := ck_some hf
        refine mw_iast X hG hT.2.1 hi6 dX5_empties_186 (fun M7 H locs eM7 hG => ?_)
        have hf := nm_of eM7 hf
        refine lv_aload_n hx hb dX5_empties_187 rfl (lv_at hl 1 rfl) ?_
        refine gf_X5_7 X hG hT dX5_empties_188 ?_
        refine lv_iload hx hb dX5_empties_191 (lv_at hl 6 rfl) ?_
        refine lv_bipush (v := 6) hx hb dX5_empties_193 (by decide) ?_
        refine lv_iadd hx hb dX5_empties_195 ?_
        refine lv_topi (fun x8 ex8 => ?_)
        have hf := nm_of ex8 hf
        refine lv_dup2_11 hx hb dX5_empties_196 rfl rfl ?_
        obtain ⟨hi9, hf⟩ := ck_some hf
        refine mw_iald X hG hT.2.1 hi9 dX5_empties_197 ?_
        refine lv_iconst (v := 1) hx hb dX5_empties_198 (by decide) ?_
        refine lv_iadd hx hb dX5_empties_199 ?_
        obtain ⟨hi10, hf⟩ := ck_some hf
        refine mw_iast X hG hT.2.1 hi10 dX5_empties_200 (fun M11 H locs eM11 hG => ?_)
        have hf := nm_of eM11 hf
        refine lv_aload_n hx hb dX5_empties_201 rfl (lv_at hl 1 rfl) ?_
        refine gf_X5_7 X hG hT dX5_empties_202 ?_
        refine lv_iconst (v := 4) hx hb dX5_empties_205 (by decide) ?_
        refine lv_dup2_11 hx hb dX5_empties_206 rfl rfl ?_
        obtain ⟨hi12, hf⟩ := ck_some hf
        refine mw_iald X hG hT.2.1 hi12 dX5_empties_207 ?_
        refine lv_iconst (v := 1) hx hb dX5_empties_208 (by decide) ?_
        refine lv_iadd hx hb dX5_empties_209 ?_
        obtain ⟨hi13, hf⟩ := ck_some hf
        refine mw_iast X hG hT.2.1 hi13 dX5_empties_210 (fun M14 H locs eM14 hG => ?_)
        have hf := nm_of eM14 hf
        obtain ⟨x15, ex15⟩ : ∃ y : Int32, y = v5 + (1 : Int32) := ⟨_, rfl⟩
        have hf := nm_of ex15 hf
        refine lv_iinc (v := x15) (lv' := [(5, .int x15), (10, .int s0), (0, .ref (a this)), (1, .int v1), (4, .int v4), (6, .int v6), (7, .int v7), (8, .int v8)]) hx hb dX5_empties_211 hl (k := 4) rfl (by rw [ex15]; rfl) (by decide) rfl (fun ls hl => ?_)
        exact w_X5_empties_L214 X hT hk31 hf hG (lv_sub hl [2, 3, 4, 0, 5] rfl)
set_option maxHeartbeats 4000000 in
set_option maxRecDepth 100000 in
theorem w_X5_empties_L137 {l : Launch} {dC : Nat → ClassId} {dI : Nat → Nat → Nat} {cy : Nat → ClassId} {a : Nat → Nat} {p : Program} {e : Env} {s : State} {m : MethodId} {args : Array Value} {below : List Frame} {meth : Method} {c : Code} (X : XU dC dI cy a p s m c args meth cX5_empties 11 RX5 (some .int)) {M : Mem} {this : Nat} (hT : K5 this) {v1 : Int32} {v4 : Int32} {v5 : Int32} {v6 : Int32} {v7 : Int32} {v8 : Int32} {o : (Int32 × Mem)} {k31 : Mem → Int32 → Int32 → Option (Int32 × Mem)} (hk31 : ∀ (M : Mem) (v5 : Int32) (v6 : Int32) (H : Heap) (locs : List Loc) (ls : Array Slot), k31 M v5 v6 = some o → GU dC dI cy a s.heap M H locs → lv_has ls 11 [(0, .ref (a this)), (1, .int v1), (4, .int v4), (5, .int v5), (6, .int v6)] → W p l e ({ frames := 4, cells := 0, slots := 0, locals := 91 } : Room) s m args below meth c H locs 0 0 (MQ below (QUi dC dI cy a o.1 o.2) args s 0 0 (AU a)) (F0 m 31 ls [])) {H : Heap} {locs : List Loc} {ls : Array Slot} (hf : f_X5_empties_L137 k31 M this v1 v4 v5 v6 v7 v8 = some o) (hG : GU dC dI cy a s.heap M H locs) (hl : lv_has ls 11 [(0, .ref (a this)), (1, .int v1), (4, .int v4), (5, .int v5), (6, .int v6), (7, .int v7), (8, .int v8)]) : W p l e ({ frames := 4, cells := 0, slots := 0, locals := 91 } : Room) s m args below meth c H locs 0 0 (MQ below (QUi dC dI cy a o.1 o.2) args s 0 0 (AU a)) (F0 m 137 ls []) := by
  have hx := X.1.1
  have hb := X.1.2.1
  have hown := X.1.2.2.2.1
  have hts := X.1.2.2.2.2
  rw [f_X5_empties_L137] at hf
  refine lv_iconst (v := 1) hx hb dX5_empties_137 (by decide) ?_
  refine lv_goto (tgt := 142) hx hb dX5_empties_138 (by decide) ?_
  exact w_X5_empties_L142 X hT hk31 hf hG (lv_sub hl [0, 1, 2, 3, 4, 5, 6] rfl)
set_option maxHeartbeats 4000000 in
set_option maxRecDepth 100000 in
theorem w_X5_empties_L141 {l : Launch} {dC : Nat → ClassId} {dI : Nat → Nat → Nat} {cy : Nat → ClassId} {a : Nat → Nat} {p : Program} {e : Env} {s : State} {m : MethodId} {args : Array Value} {below : List Frame} {meth : Method} {c : Code} (X : XU dC dI cy a p s m c args meth cX5_empties 11 RX5 (some .int)) {M : Mem} {this : Nat} (hT : K5 this) {v1 : Int32} {v4 : Int32} {v5 : Int32} {v6 : Int32} {v7 : Int32} {v8 : Int32} {o : (Int32 × Mem)} {k31 : Mem → Int32 → Int32 → Option (Int32 × Mem)} (hk31 : ∀ (M : Mem) (v5 : Int32) (v6 : Int32) (H : Heap) (locs : List Loc) (ls : Array Slot), k31 M v5 v6 = some o → GU dC dI cy a s.heap M H locs → lv_has ls 11 [(0, .ref (a this)), (1, .int v1), (4, .int v4), (5, .int v5), (6, .int v6)] → W p l e ({ frames := 4, cells := 0, slots := 0, locals := 91 } : Room) s m args below meth c H locs 0 0 (MQ below (QUi dC dI cy a o.1 o.2) args s 0 0 (AU a)) (F0 m 31 ls [])) {H : Heap} {locs : List Loc} {ls : Array Slot} (hf : f_X5_empties_L141 k31 M this v1 v4 v5 v6 v7 v8 = some o) (hG : GU dC dI cy a s.heap M H locs) (hl : lv_has ls 11 [(0, .ref (a this)), (1, .int v1), (4, .int v4), (5, .int v5), (6, .int v6), (7, .int v7), (8, .int v8)]) : W p l e ({ frames := 4, cells := 0, slots := 0, locals := 91 } : Room) s m args below meth c H locs 0 0 (MQ below (QUi dC dI cy a o.1 o.2) args s 0 0 (AU a)) (F0 m 141 ls []) := by
  have hx := X.1.1
  have hb := X.1.2.1
  have hown := X.1.2.2.2.1
  have hts := X.1.2.2.2.2
  rw [f_X5_empties_L141] at hf
  refine lv_iconst (v := 0) hx hb dX5_empties_141 (by decide) ?_
  exact w_X5_empties_L142 X hT hk31 hf hG (lv_sub hl [0, 1, 2, 3, 4, 5, 6] rfl)
set_option maxHeartbeats 4000000 in
set_option maxRecDepth 100000 in
theorem w_X5_empties_L84 {l : Launch} {dC : Nat → ClassId} {dI : Nat → Nat → Nat} {cy : Nat → ClassId} {a : Nat → Nat} {p : Program} {e : Env} {s : State} {m : MethodId} {args : Array Value} {below : List Frame} {meth : Method} {c : Code} (X : XU dC dI cy a p s m c args meth cX5_empties 11 RX5 (some .int)) {M : Mem} {this : Nat} (hT : K5 this) {v1 : Int32} {v4 : Int32} {v5 : Int32} {v6 : Int32} {v7 : Int32} {s0 : Int32} {o : (Int32 × Mem)} {k31 : Mem → Int32 → Int32 → Option (Int32 × Mem)} (hk31 : ∀ (M : Mem) (v5 : Int32) (v6 : Int32) (H : Heap) (locs : List Loc) (ls : Array Slot), k31 M v5 v6 = some o → GU dC dI cy a s.heap M H locs → lv_has ls 11 [(0, .ref (a this)), (1, .int v1), (4, .int v4), (5, .int v5), (6, .int v6)] → W p l e ({ frames := 4, cells := 0, slots := 0, locals := 91 } : Room) s m args below meth c H locs 0 0 (MQ below (QUi dC dI cy a o.1 o.2) args s 0 0 (AU a)) (F0 m 31 ls [])) {H : Heap} {locs : List Loc} {ls : Array Slot} (hf : f_X5_empties_L84 k31 M this v1 v4 v5 v6 v7 s0 = some o) (hG : GU dC dI cy a s.heap M H locs) (hl : lv_has ls 11 [(0, .ref (a this)), (1, .int v1), (4, .int v4), (5, .int v5), (6, .int v6), (7, .int v7)]) : W p l e ({ frames := 4, cells := 0, slots := 0, locals := 91 } : Room) s m args below meth c H locs 0 0 (MQ below (QUi dC dI cy a o.1 o.2) args s 0 0 (AU a)) (F0 m 84 ls [.int s0]) := by
  have hx := X.1.1
  have hb := X.1.2.1
  have hown := X.1.2.2.2.1
  have hts := X.1.2.2.2.2
  rw [f_X5_empties_L84] at hf
  refine lv_istore (lv' := [(8, .int s0), (0, .ref (a this)), (1, .int v1), (4, .int v4), (5, .int v5), (6, .int v6), (7, .int v7)]) hx hb dX5_empties_84 hl (by decide) rfl (fun ls hl => ?_)
  refine lv_aload_n hx hb dX5_empties_86 rfl (lv_at hl 1 rfl) ?_
  refine gf_X5_7 X hG hT dX5_empties_87 ?_
  refine lv_iload hx hb dX5_empties_90 (lv_at hl 6 rfl) ?_
  refine lv_iconst (v := 1) hx hb dX5_empties_92 (by decide) ?_
  refine lv_iadd hx hb dX5_empties_93 ?_
  obtain ⟨hi1, hf⟩ := ck_some hf
  refine mw_iald X hG hT.2.1 hi1 dX5_empties_94 ?_
  refine lv_topi (fun x2 ex2 => ?_)
  have hf := nm_of ex2 hf
  refine lv_istore (lv' := [(9, .int x2), (8, .int s0), (0, .ref (a this)), (1, .int v1), (4, .int v4), (5, .int v5), (6, .int v6), (7, .int v7)]) hx hb dX5_empties_95 hl (by decide) rfl (fun ls hl => ?_)
  refine lv_aload_n hx hb dX5_empties_97 rfl (lv_at hl 2 rfl) ?_
  refine gf_X5_7 X hG hT dX5_empties_98 ?_
  refine lv_iconst (v := 2) hx hb dX5_empties_101 (by decide) ?_
  obtain ⟨hi3, hf⟩ := ck_some hf
  refine mw_iald X hG hT.2.1 hi3 dX5_empties_102 ?_
  refine lv_if_eq (tgt := 137) hx hb dX5_empties_103 (by decide) (fun c4 => ?_) (fun c4 => ?_)
  · have hf := itep c4 hf
    exact w_X5_empties_L137 X hT hk31 hf hG (lv_sub hl [2, 3, 4, 5, 6, 7, 1] rfl)
  · have hf := iten c4 hf
    refine lv_aload_n hx hb dX5_empties_106 rfl (lv_at hl 2 rfl) ?_
    refine lv_iconst (v := 0) hx hb dX5_empties_107 (by decide) ?_
    refine lv_iload hx hb dX5_empties_108 (lv_at hl 0 rfl) ?_
    obtain ⟨x5, hr6, hf⟩ := bd_some hf
    refine mw_callVi (rest := []) X hG hT.1 rfl (c_X5_firstOf l dC dI cy a X.2.2.1 this hT M (0 : Int32) x2 hr6) (mw_cwV X 2 g_X5_88 hd_X5_firstOf ⟨rfl, rfl⟩ ⟨Nat.le_of_ble_eq_true rfl, Nat.le_of_ble_eq_true rfl⟩) rfl hl.1 rfl (Nat.le_of_ble_eq_true rfl) dX5_empties_110 (fun H locs hG => ?_)
    refine lv_iconst (v := -1) hx hb dX5_empties_113 (by decide) ?_
    refine lv_icmp_eq (tgt := 141) hx hb dX5_empties_114 (by decide) (fun c7 => ?_) (fun c7 => ?_)
    · have hf := itep c7 hf
      exact w_X5_empties_L141 X hT hk31 hf hG (lv_sub hl [2, 3, 4, 5, 6, 7, 1] rfl)
    · have hf := iten c7 hf
      refine lv_aload_n hx hb dX5_empties_117 rfl (lv_at hl 2 rfl) ?_
      refine lv_iload hx hb dX5_empties_118 (lv_at hl 0 rfl) ?_
      obtain ⟨x8, hr9, hf⟩ := bd_some hf
      refine mw_callVi (rest := []) X hG hT.1 rfl (c_X5_may l dC dI cy a X.2.2.1 this hT M x2 hr9) (mw_cwV X 1 g_X5_108 hd_X5_may ⟨rfl, rfl⟩ ⟨Nat.le_of_ble_eq_true rfl, Nat.le_of_ble_eq_true rfl⟩) rfl hl.1 rfl (Nat.le_of_ble_eq_true rfl) dX5_empties_120 (fun H locs hG => ?_)
      refine lv_if_ne (tgt := 141) hx hb dX5_empties_123 (by decide) (fun c10 => ?_) (fun c10 => ?_)
      · have hf := iten c10 hf
        exact w_X5_empties_L141 X hT hk31 hf hG (lv_sub hl [2, 3, 4, 5, 6, 7, 1] rfl)
      · have hf := itep c10 hf
        refine lv_aload_n hx hb dX5_empties_126 rfl (lv_at hl 2 rfl) ?_
        refine lv_iload hx hb dX5_empties_127 (lv_at hl 0 rfl) ?_
        obtain ⟨x11, hr12, hf⟩ := bd_some hf
        refine mw_callVi (rest := []) X hG hT.1 rfl (c_X5_leastTo l dC dI cy a X.2.2.1 this hT M x2 hr12) (mw_cwV X 1 g_X5_92 hd_X5_leastTo ⟨rfl, rfl⟩ ⟨Nat.le_of_ble_eq_true rfl, Nat.le_of_ble_eq_true rfl⟩) rfl hl.1 rfl (Nat.le_of_ble_eq_true rfl) dX5_empties_129 (fun H locs hG => ?_)
        refine lv_iload hx hb dX5_empties_132 (lv_at hl 6 rfl) ?_
        refine lv_icmp_ne (tgt := 141) hx hb dX5_empties_134 (by decide) (fun c13 => ?_) (fun c13 => ?_)
        · have hf := iten c13 hf
          exact w_X5_empties_L141 X hT hk31 hf hG (lv_sub hl [2, 3, 4, 5, 6, 7, 1] rfl)
        · have hf := itep c13 hf
          exact w_X5_empties_L137 X hT hk31 hf hG (lv_sub hl [2, 3, 4, 5, 6, 7, 1] rfl)
set_option maxHeartbeats 4000000 in
set_option maxRecDepth 100000 in
theorem w_X5_empties_L31 {l : Launch} {dC : Nat → ClassId} {dI : Nat → Nat → Nat} {cy : Nat → ClassId} {a : Nat → Nat} {p : Program} {e : Env} {s : State} {m : MethodId} {args : Array Value} {below : List Frame} {meth : Method} {c : Code} (X : XU dC dI cy a p s m c args meth cX5_empties 11 RX5 (some .int)) {this : Nat} (hT : K5 this) {v1 : Int32} {v4 : Int32} {o : (Int32 × Mem)} : ∀ (n : Nat) (M : Mem) (v5 : Int32) (v6 : Int32) (H : Heap) (locs : List Loc) (ls : Array Slot), f_X5_empties_L31 this v1 v4 n M v5 v6 = some o → GU dC dI cy a s.heap M H locs → lv_has ls 11 [(0, .ref (a this)), (1, .int v1), (4, .int v4), (5, .int v5), (6, .int v6)] → W p l e ({ frames := 4, cells := 0, slots := 0, locals := 91 } : Room) s m args below meth c H locs 0 0 (MQ below (QUi dC dI cy a o.1 o.2) args s 0 0 (AU a)) (F0 m 31 ls []) := by
  have hx := X.1.1
  have hb := X.1.2.1
  have hown := X.1.2.2.2.1
  have hts := X.1.2.2.2.2
  intro n
  induction n with
  | zero => intro M v5 v6 H locs ls hf; cases hf
  | succ n ih =>
    intro M v5 v6 H locs ls hf hG hl
    rw [f_X5_empties_L31] at hf
    refine lv_iload hx hb dX5_empties_31 (lv_at hl 4 rfl) ?_
    refine lv_aload_n hx hb dX5_empties_33 rfl (lv_at hl 0 rfl) ?_
    refine gf_X5_7 X hG hT dX5_empties_34 ?_
    refine lv_iconst (v := 1) hx hb dX5_empties_37 (by decide) ?_
    obtain ⟨hi1, hf⟩ := ck_some hf
    refine mw_iald X hG hT.2.1 hi1 dX5_empties_38 ?_
    refine lv_icmp_ge (tgt := 220) hx hb dX5_empties_39 (by decide) (fun c2 => ?_) (fun c2 => ?_)
    · have hf := itep c2 hf
      refine lv_iload hx hb dX5_empties_220 (lv_at hl 3 rfl) ?_
      obtain rfl := Option.some.inj hf
      exact mw_iret X hG dX5_empties_222
    · have hf := iten c2 hf
      refine lv_iconst (v := 0) hx hb dX5_empties_42 (by decide) ?_
      refine lv_iload hx hb dX5_empties_43 (lv_at hl 4 rfl) ?_
      obtain ⟨x3, hr4, hf⟩ := bd_some hf
      refine mw_callSi (rest := []) X hG (c_X5_at l dC dI cy a X.2.2.1  M (0 : Int32) v6 hr4) (mw_cwS X 2 g_X5_34 hd_X5_at ⟨rfl, rfl⟩ ⟨Nat.le_of_ble_eq_true rfl, Nat.le_of_ble_eq_true rfl⟩) rfl hl.1 rfl (Nat.le_of_ble_eq_true rfl) dX5_empties_45 (fun H locs hG => ?_)
      refine lv_istore (lv' := [(7, .int x3), (0, .ref (a this)), (1, .int v1), (4, .int v4), (5, .int v5), (6, .int v6)]) hx hb dX5_empties_48 hl (by decide) rfl (fun ls hl => ?_)
      refine lv_iload hx hb dX5_empties_50 (lv_at hl 3 rfl) ?_
      refine lv_aload_n hx hb dX5_empties_52 rfl (lv_at hl 1 rfl) ?_
      refine gf_X5_7 X hG hT dX5_empties_53 ?_
      refine lv_iload hx hb dX5_empties_56 (lv_at hl 0 rfl) ?_
      refine lv_iconst (v := 2) hx hb dX5_empties_58 (by decide) ?_
      refine lv_iadd hx hb dX5_empties_59 ?_
      obtain ⟨hi5, hf⟩ := ck_some hf
      refine mw_iald X hG hT.2.1 hi5 dX5_empties_60 ?_
      refine lv_iadd hx hb dX5_empties_61 ?_
      refine lv_ldc (v := 99999999) hx hb hown (hts _ wd_ct_X5_91) dX5_empties_62 ?_
      refine lv_icmp_le (tgt := 72) hx hb dX5_empties_64 (by decide) (fun c6 => ?_) (fun c6 => ?_)
      · have hf := itep c6 hf
        refine lv_iload hx hb dX5_empties_72 (lv_at hl 3 rfl) ?_
        refine lv_aload_n hx hb dX5_empties_74 rfl (lv_at hl 1 rfl) ?_
        refine gf_X5_7 X hG hT dX5_empties_75 ?_
        refine lv_iload hx hb dX5_empties_78 (lv_at hl 0 rfl) ?_
        refine lv_iconst (v := 2) hx hb dX5_empties_80 (by decide) ?_
        refine lv_iadd hx hb dX5_empties_81 ?_
        obtain ⟨hi7, hf⟩ := ck_some hf
        refine mw_iald X hG hT.2.1 hi7 dX5_empties_82 ?_
        refine lv_iadd hx hb dX5_empties_83 ?_
        exact w_X5_empties_L84 X hT ih hf hG (lv_sub hl [1, 2, 3, 4, 5, 0] rfl)
      · have hf := iten c6 hf
        refine lv_ldc (v := 99999999) hx hb hown (hts _ wd_ct_X5_91) dX5_empties_67 ?_
        refine lv_goto (tgt := 84) hx hb dX5_empties_69 (by decide) ?_
        exact w_X5_empties_L84 X hT ih hf hG (lv_sub hl [1, 2, 3, 4, 5, 0] rfl)
set_option maxHeartbeats 4000000 in
set_option maxRecDepth 100000 in
theorem w_X5_empties_L23 {l : Launch} {dC : Nat → ClassId} {dI : Nat → Nat → Nat} {cy : Nat → ClassId} {a : Nat → Nat} {p : Program} {e : Env} {s : State} {m : MethodId} {args : Array Value} {below : List Frame} {meth : Method} {c : Code} (X : XU dC dI cy a p s m c args meth cX5_empties 11 RX5 (some .int)) {M : Mem} {this : Nat} (hT : K5 this) {v1 : Int32} {s0 : Int32} {o : (Int32 × Mem)} {H : Heap} {locs : List Loc} {ls : Array Slot} (hf : f_X5_empties_L23 M this v1 s0 = some o) (hG : GU dC dI cy a s.heap M H locs) (hl : lv_has ls 11 [(0, .ref (a this)), (1, .int v1)]) : W p l e ({ frames := 4, cells := 0, slots := 0, locals := 91 } : Room) s m args below meth c H locs 0 0 (MQ below (QUi dC dI cy a o.1 o.2) args s 0 0 (AU a)) (F0 m 23 ls [.int s0]) := by
  have hx := X.1.1
  have hb := X.1.2.1
  have hown := X.1.2.2.2.1
  have hts := X.1.2.2.2.2
  rw [f_X5_empties_L23] at hf
  refine lv_istore (lv' := [(4, .int s0), (0, .ref (a this)), (1, .int v1)]) hx hb dX5_empties_23 hl (by decide) rfl (fun ls hl => ?_)
  refine lv_iconst (v := 0) hx hb dX5_empties_25 (by decide) ?_
  refine lv_istore (lv' := [(5, .int (0 : Int32)), (4, .int s0), (0, .ref (a this)), (1, .int v1)]) hx hb dX5_empties_26 hl (by decide) rfl (fun ls hl => ?_)
  refine lv_iconst (v := 0) hx hb dX5_empties_28 (by decide) ?_
  refine lv_istore (lv' := [(6, .int (0 : Int32)), (5, .int (0 : Int32)), (4, .int s0), (0, .ref (a this)), (1, .int v1)]) hx hb dX5_empties_29 hl (by decide) rfl (fun ls hl => ?_)
  exact w_X5_empties_L31 X hT 1000 _ _ _ _ _ _ hf hG (lv_sub hl [3, 4, 2, 1, 0] rfl)
set_option maxHeartbeats 4000000 in
set_option maxRecDepth 100000 in
theorem c_X5_empties (l : Launch) (dC : Nat → ClassId) (dI : Nat → Nat → Nat) (cy : Nat → ClassId) (a : Nat → Nat) (ha : injU a) (this : Nat) (hT : K5 this) (M : Mem) (v1 : Int32) {o : (Int32 × Mem)} (hf : f_X5_empties M this v1 = some o) : Met l yX5_empties (wsU yX5_empties cX5_empties 11 (some .int)) ({ frames := 4, cells := 0, slots := 0, locals := 91 } : Room) (PU dC dI cy a [.ref (a this), .int v1] M) (QUi dC dI cy a o.1 o.2) 0 0 (AU a) := by
  refine mw_met (by decide) ha (Nat.le_of_ble_eq_true rfl) ?_
  intro p e s m below meth c ls X hG hl
  have hl : lv_has ls 11 [(0, .ref (a this)), (1, .int v1)] := hl
  have X : XU dC dI cy a p s m c [.ref (a this), .int v1].toArray meth cX5_empties 11 RX5 (some .int) := X
  have hx := X.1.1
  have hb := X.1.2.1
  have hown := X.1.2.2.2.1
  have hts := X.1.2.2.2.2
  rw [f_X5_empties] at hf
  refine lv_aload_n hx hb dX5_empties_0 rfl (lv_at hl 0 rfl) ?_
  refine lv_iload_n hx hb dX5_empties_1 rfl (lv_at hl 1 rfl) ?_
  obtain ⟨x1, hr2, hf⟩ := bd_some hf
  refine mw_callVi (rest := []) X hG hT.1 rfl (c_X5_safe l dC dI cy a X.2.2.1 this hT M v1 hr2) (mw_cwV X 1 g_X5_98 hd_X5_safe ⟨rfl, rfl⟩ ⟨Nat.le_of_ble_eq_true rfl, Nat.le_of_ble_eq_true rfl⟩) rfl hl.1 rfl (Nat.le_of_ble_eq_true rfl) dX5_empties_2 (fun H locs hG => ?_)
  refine lv_istore_n (lv' := [(2, .int x1), (0, .ref (a this)), (1, .int v1)]) hx hb dX5_empties_5 rfl hl (by decide) rfl (fun ls hl => ?_)
  refine lv_aload_n hx hb dX5_empties_6 rfl (lv_at hl 1 rfl) ?_
  refine lv_iconst (v := 0) hx hb dX5_empties_7 (by decide) ?_
  refine lv_iload_n hx hb dX5_empties_8 rfl (lv_at hl 2 rfl) ?_
  obtain ⟨x3, hr4, hf⟩ := bd_some hf
  refine mw_callVi (rest := []) X hG hT.1 rfl (c_X5_firstTime l dC dI cy a X.2.2.1 this hT M (0 : Int32) v1 hr4) (mw_cwV X 2 g_X5_95 hd_X5_firstTime ⟨rfl, rfl⟩ ⟨Nat.le_of_ble_eq_true rfl, Nat.le_of_ble_eq_true rfl⟩) rfl hl.1 rfl (Nat.le_of_ble_eq_true rfl) dX5_empties_9 (fun H locs hG => ?_)
  refine lv_istore_n (lv' := [(3, .int x3), (2, .int x1), (0, .ref (a this)), (1, .int v1)]) hx hb dX5_empties_12 rfl hl (by decide) rfl (fun ls hl => ?_)
  refine lv_iload_n hx hb dX5_empties_13 rfl (lv_at hl 0 rfl) ?_
  refine lv_iload_n hx hb dX5_empties_14 rfl (lv_at hl 1 rfl) ?_
  refine lv_icmp_ge (tgt := 22) hx hb dX5_empties_15 (by decide) (fun c5 => ?_) (fun c5 => ?_)
  · have hf := itep c5 hf
    refine lv_iload_n hx hb dX5_empties_22 rfl (lv_at hl 1 rfl) ?_
    exact w_X5_empties_L23 X hT hf hG (lv_sub hl [2, 3] rfl)
  · have hf := iten c5 hf
    refine lv_iload_n hx hb dX5_empties_18 rfl (lv_at hl 0 rfl) ?_
    refine lv_goto (tgt := 23) hx hb dX5_empties_19 (by decide) ?_
    exact w_X5_empties_L23 X hT hf hG (lv_sub hl [2, 3] rfl)
/-! X5_rounds -/
set_option maxHeartbeats 4000000 in
set_option maxRecDepth 100000 in
theorem w_X5_rounds_L36 {l : Launch} {dC : Nat → ClassId} {dI : Nat → Nat → Nat} {cy : Nat → ClassId} {a : Nat → Nat} {p : Program} {e : Env} {s : State} {m : MethodId} {args : Array Value} {below : List Frame} {meth : Method} {c : Code} (X : XU dC dI cy a p s m c args meth cX5_rounds 3 RX5 (some .boolean)) {M : Mem} {this : Nat} (hT : K5 this) {v1 : Int32} {v2 : Int32} {o : (Int32 × Mem)} {k4 : Mem → Int32 → Int32 → Option (Int32 × Mem)} (hk4 : ∀ (M : Mem) (v1 : Int32) (v2 : Int32) (H : Heap) (locs : List Loc) (ls : Array Slot), k4 M v1 v2 = some o → GU dC dI cy a s.heap M H locs → lv_has ls 3 [(0, .ref (a this)), (1, .int v1), (2, .int v2)] → W p l e ({ frames := 5, cells := 0, slots := 0, locals := 121 } : Room) s m args below meth c H locs 0 0 (MQ below (QUi dC dI cy a o.1 o.2) args s 0 0 (AU a)) (F0 m 4 ls [])) {H : Heap} {locs : List Loc} {ls : Array Slot} (hf : f_X5_rounds_L36 k4 M this v1 v2 = some o) (hG : GU dC dI cy a s.heap M H locs) (hl : lv_has ls 3 [(0, .ref (a this)), (1, .int v1), (2, .int v2)]) : W p l e ({ frames := 5, cells := 0, slots := 0, locals := 121 } : Room) s m args below meth c H locs 0 0 (MQ below (QUi dC dI cy a o.1 o.2) args s 0 0 (AU a)) (F0 m 36 ls []) := by
  have hx := X.1.1
  have hb := X.1.2.1
  have hown := X.1.2.2.2.1
  have hts := X.1.2.2.2.2
  rw [f_X5_rounds_L36] at hf
  obtain ⟨x1, ex1⟩ : ∃ y : Int32, y = v2 + (1 : Int32) := ⟨_, rfl⟩
  have hf := nm_of ex1 hf
  refine lv_iinc (v := x1) (lv' := [(2, .int x1), (0, .ref (a this)), (1, .int v1)]) hx hb dX5_rounds_36 hl (k := 2) rfl (by rw [ex1]; rfl) (by decide) rfl (fun ls hl => ?_)
  refine lv_goto (tgt := 4) hx hb dX5_rounds_39 (by decide) ?_
  exact hk4 _ _ _ _ _ _ hf hG (lv_sub hl [1, 2, 0] rfl)
set_option maxHeartbeats 4000000 in
set_option maxRecDepth 100000 in
theorem w_X5_rounds_L97 {l : Launch} {dC : Nat → ClassId} {dI : Nat → Nat → Nat} {cy : Nat → ClassId} {a : Nat → Nat} {p : Program} {e : Env} {s : State} {m : MethodId} {args : Array Value} {below : List Frame} {meth : Method} {c : Code} (X : XU dC dI cy a p s m c args meth cX5_rounds 3 RX5 (some .boolean)) {M : Mem} {this : Nat} (hT : K5 this) {s0 : Int32} {o : (Int32 × Mem)} {H : Heap} {locs : List Loc} {ls : Array Slot} (hf : f_X5_rounds_L97 M this s0 = some o) (hG : GU dC dI cy a s.heap M H locs) (hl : lv_has ls 3 [(0, .ref (a this))]) : W p l e ({ frames := 5, cells := 0, slots := 0, locals := 121 } : Room) s m args below meth c H locs 0 0 (MQ below (QUi dC dI cy a o.1 o.2) args s 0 0 (AU a)) (F0 m 97 ls [.int s0]) := by
  have hx := X.1.1
  have hb := X.1.2.1
  have hown := X.1.2.2.2.1
  have hts := X.1.2.2.2.2
  rw [f_X5_rounds_L97] at hf
  obtain ⟨hz1, hf⟩ := zk_some hf
  obtain rfl := Option.some.inj hf
  exact mw_zret X hG (zk_nar hz1) dX5_rounds_97
set_option maxHeartbeats 4000000 in
set_option maxRecDepth 100000 in
theorem w_X5_rounds_L78 {l : Launch} {dC : Nat → ClassId} {dI : Nat → Nat → Nat} {cy : Nat → ClassId} {a : Nat → Nat} {p : Program} {e : Env} {s : State} {m : MethodId} {args : Array Value} {below : List Frame} {meth : Method} {c : Code} (X : XU dC dI cy a p s m c args meth cX5_rounds 3 RX5 (some .boolean)) {M : Mem} {this : Nat} (hT : K5 this) {v1 : Int32} {o : (Int32 × Mem)} {H : Heap} {locs : List Loc} {ls : Array Slot} (hf : f_X5_rounds_L78 M this v1 = some o) (hG : GU dC dI cy a s.heap M H locs) (hl : lv_has ls 3 [(0, .ref (a this)), (1, .int v1)]) : W p l e ({ frames := 5, cells := 0, slots := 0, locals := 121 } : Room) s m args below meth c H locs 0 0 (MQ below (QUi dC dI cy a o.1 o.2) args s 0 0 (AU a)) (F0 m 78 ls []) := by
  have hx := X.1.1
  have hb := X.1.2.1
  have hown := X.1.2.2.2.1
  have hts := X.1.2.2.2.2
  rw [f_X5_rounds_L78] at hf
  refine lv_aload_n hx hb dX5_rounds_78 rfl (lv_at hl 0 rfl) ?_
  refine gf_X5_7 X hG hT dX5_rounds_79 ?_
  refine lv_iconst (v := 5) hx hb dX5_rounds_82 (by decide) ?_
  refine lv_dup2_11 hx hb dX5_rounds_83 rfl rfl ?_
  obtain ⟨hi1, hf⟩ := ck_some hf
  refine mw_iald X hG hT.2.1 hi1 dX5_rounds_84 ?_
  refine lv_iconst (v := 1) hx hb dX5_rounds_85 (by decide) ?_
  refine lv_iadd hx hb dX5_rounds_86 ?_
  obtain ⟨hi2, hf⟩ := ck_some hf
  refine mw_iast X hG hT.2.1 hi2 dX5_rounds_87 (fun M3 H locs eM3 hG => ?_)
  have hf := nm_of eM3 hf
  refine lv_iload_n hx hb dX5_rounds_88 rfl (lv_at hl 1 rfl) ?_
  refine lv_if_le (tgt := 96) hx hb dX5_rounds_89 (by decide) (fun c4 => ?_) (fun c4 => ?_)
  · have hf := itep c4 hf
    refine lv_iconst (v := 0) hx hb dX5_rounds_96 (by decide) ?_
    exact w_X5_rounds_L97 X hT hf hG (lv_sub hl [0] rfl)
  · have hf := iten c4 hf
    refine lv_iconst (v := 1) hx hb dX5_rounds_92 (by decide) ?_
    refine lv_goto (tgt := 97) hx hb dX5_rounds_93 (by decide) ?_
    exact w_X5_rounds_L97 X hT hf hG (lv_sub hl [0] rfl)
set_option maxHeartbeats 4000000 in
set_option maxRecDepth 100000 in
theorem w_X5_rounds_L44 {l : Launch} {dC : Nat → ClassId} {dI : Nat → Nat → Nat} {cy : Nat → ClassId} {a : Nat → Nat} {p : Program} {e : Env} {s : State} {m : MethodId} {args : Array Value} {below : List Frame} {meth : Method} {c : Code} (X : XU dC dI cy a p s m c args meth cX5_rounds 3 RX5 (some .boolean)) {this : Nat} (hT : K5 this) {o : (Int32 × Mem)} : ∀ (n : Nat) (M : Mem) (v1 : Int32) (v2 : Int32) (H : Heap) (locs : List Loc) (ls : Array Slot), f_X5_rounds_L44 this n M v1 v2 = some o → GU dC dI cy a s.heap M H locs → lv_has ls 3 [(0, .ref (a this)), (1, .int v1), (2, .int v2)] → W p l e ({ frames := 5, cells := 0, slots := 0, locals := 121 } : Room) s m args below meth c H locs 0 0 (MQ below (QUi dC dI cy a o.1 o.2) args s 0 0 (AU a)) (F0 m 44 ls []) := by
  have hx := X.1.1
  have hb := X.1.2.1
  have hown := X.1.2.2.2.1
  have hts := X.1.2.2.2.2
  intro n
  induction n with
  | zero => intro M v1 v2 H locs ls hf; cases hf
  | succ n ih =>
    intro M v1 v2 H locs ls hf hG hl
    rw [f_X5_rounds_L44] at hf
    refine lv_iload_n hx hb dX5_rounds_44 rfl (lv_at hl 2 rfl) ?_
    refine lv_aload_n hx hb dX5_rounds_45 rfl (lv_at hl 0 rfl) ?_
    refine gf_X5_7 X hG hT dX5_rounds_46 ?_
    refine lv_iconst (v := 0) hx hb dX5_rounds_49 (by decide) ?_
    obtain ⟨hi1, hf⟩ := ck_some hf
    refine mw_iald X hG hT.2.1 hi1 dX5_rounds_50 ?_
    refine lv_icmp_ge (tgt := 78) hx hb dX5_rounds_51 (by decide) (fun c2 => ?_) (fun c2 => ?_)
    · have hf := itep c2 hf
      exact w_X5_rounds_L78 X hT hf hG (lv_sub hl [0, 1] rfl)
    · have hf := iten c2 hf
      refine lv_aload_n hx hb dX5_rounds_54 rfl (lv_at hl 0 rfl) ?_
      refine gf_X5_7 X hG hT dX5_rounds_55 ?_
      refine lv_iconst (v := 2) hx hb dX5_rounds_58 (by decide) ?_
      obtain ⟨hi3, hf⟩ := ck_some hf
      refine mw_iald X hG hT.2.1 hi3 dX5_rounds_59 ?_
      refine lv_iconst (v := 1) hx hb dX5_rounds_60 (by decide) ?_
      refine lv_icmp_eq (tgt := 78) hx hb dX5_rounds_61 (by decide) (fun c4 => ?_) (fun c4 => ?_)
      · have hf := itep c4 hf
        exact w_X5_rounds_L78 X hT hf hG (lv_sub hl [0, 1] rfl)
      · have hf := iten c4 hf
        refine lv_iload_n hx hb dX5_rounds_64 rfl (lv_at hl 1 rfl) ?_
        refine lv_aload_n hx hb dX5_rounds_65 rfl (lv_at hl 0 rfl) ?_
        refine lv_iload_n hx hb dX5_rounds_66 rfl (lv_at hl 2 rfl) ?_
        obtain ⟨x6, M5, hr7, hf⟩ := bd2_some hf
        refine mw_callVi (rest := [.int v1]) X hG hT.1 rfl (c_X5_empties l dC dI cy a X.2.2.1 this hT M v2 hr7) (mw_cwV X 1 g_X5_115 hd_X5_empties ⟨rfl, rfl⟩ ⟨Nat.le_of_ble_eq_true rfl, Nat.le_of_ble_eq_true rfl⟩) rfl hl.1 rfl (Nat.le_of_ble_eq_true rfl) dX5_rounds_67 (fun H locs hG => ?_)
        refine lv_iadd hx hb dX5_rounds_70 ?_
        refine lv_topi (fun x8 ex8 => ?_)
        have hf := nm_of ex8 hf
        refine lv_istore_n (lv' := [(1, .int x8), (0, .ref (a this)), (2, .int v2)]) hx hb dX5_rounds_71 rfl hl (by decide) rfl (fun ls hl => ?_)
        obtain ⟨x9, ex9⟩ : ∃ y : Int32, y = v2 + (1 : Int32) := ⟨_, rfl⟩
        have hf := nm_of ex9 hf
        refine lv_iinc (v := x9) (lv' := [(2, .int x9), (1, .int x8), (0, .ref (a this))]) hx hb dX5_rounds_72 hl (k := 2) rfl (by rw [ex9]; rfl) (by decide) rfl (fun ls hl => ?_)
        refine lv_goto (tgt := 44) hx hb dX5_rounds_75 (by decide) ?_
        exact ih _ _ _ _ _ _ hf hG (lv_sub hl [2, 1, 0] rfl)
set_option maxHeartbeats 4000000 in
set_option maxRecDepth 100000 in
theorem w_X5_rounds_L42 {l : Launch} {dC : Nat → ClassId} {dI : Nat → Nat → Nat} {cy : Nat → ClassId} {a : Nat → Nat} {p : Program} {e : Env} {s : State} {m : MethodId} {args : Array Value} {below : List Frame} {meth : Method} {c : Code} (X : XU dC dI cy a p s m c args meth cX5_rounds 3 RX5 (some .boolean)) {M : Mem} {this : Nat} (hT : K5 this) {v1 : Int32} {o : (Int32 × Mem)} {H : Heap} {locs : List Loc} {ls : Array Slot} (hf : f_X5_rounds_L42 M this v1 = some o) (hG : GU dC dI cy a s.heap M H locs) (hl : lv_has ls 3 [(0, .ref (a this)), (1, .int v1)]) : W p l e ({ frames := 5, cells := 0, slots := 0, locals := 121 } : Room) s m args below meth c H locs 0 0 (MQ below (QUi dC dI cy a o.1 o.2) args s 0 0 (AU a)) (F0 m 42 ls []) := by
  have hx := X.1.1
  have hb := X.1.2.1
  have hown := X.1.2.2.2.1
  have hts := X.1.2.2.2.2
  rw [f_X5_rounds_L42] at hf
  refine lv_iconst (v := 0) hx hb dX5_rounds_42 (by decide) ?_
  refine lv_istore_n (lv' := [(2, .int (0 : Int32)), (0, .ref (a this)), (1, .int v1)]) hx hb dX5_rounds_43 rfl hl (by decide) rfl (fun ls hl => ?_)
  exact w_X5_rounds_L44 X hT 1000 _ _ _ _ _ _ hf hG (lv_sub hl [1, 2, 0] rfl)
set_option maxHeartbeats 4000000 in
set_option maxRecDepth 100000 in
theorem w_X5_rounds_L4 {l : Launch} {dC : Nat → ClassId} {dI : Nat → Nat → Nat} {cy : Nat → ClassId} {a : Nat → Nat} {p : Program} {e : Env} {s : State} {m : MethodId} {args : Array Value} {below : List Frame} {meth : Method} {c : Code} (X : XU dC dI cy a p s m c args meth cX5_rounds 3 RX5 (some .boolean)) {this : Nat} (hT : K5 this) {o : (Int32 × Mem)} : ∀ (n : Nat) (M : Mem) (v1 : Int32) (v2 : Int32) (H : Heap) (locs : List Loc) (ls : Array Slot), f_X5_rounds_L4 this n M v1 v2 = some o → GU dC dI cy a s.heap M H locs → lv_has ls 3 [(0, .ref (a this)), (1, .int v1), (2, .int v2)] → W p l e ({ frames := 5, cells := 0, slots := 0, locals := 121 } : Room) s m args below meth c H locs 0 0 (MQ below (QUi dC dI cy a o.1 o.2) args s 0 0 (AU a)) (F0 m 4 ls []) := by
  have hx := X.1.1
  have hb := X.1.2.1
  have hown := X.1.2.2.2.1
  have hts := X.1.2.2.2.2
  intro n
  induction n with
  | zero => intro M v1 v2 H locs ls hf; cases hf
  | succ n ih =>
    intro M v1 v2 H locs ls hf hG hl
    rw [f_X5_rounds_L4] at hf
    refine lv_iload_n hx hb dX5_rounds_4 rfl (lv_at hl 2 rfl) ?_
    refine lv_aload_n hx hb dX5_rounds_5 rfl (lv_at hl 0 rfl) ?_
    refine gf_X5_7 X hG hT dX5_rounds_6 ?_
    refine lv_iconst (v := 0) hx hb dX5_rounds_9 (by decide) ?_
    obtain ⟨hi1, hf⟩ := ck_some hf
    refine mw_iald X hG hT.2.1 hi1 dX5_rounds_10 ?_
    refine lv_icmp_ge (tgt := 42) hx hb dX5_rounds_11 (by decide) (fun c2 => ?_) (fun c2 => ?_)
    · have hf := itep c2 hf
      exact w_X5_rounds_L42 X hT hf hG (lv_sub hl [0, 1] rfl)
    · have hf := iten c2 hf
      refine lv_aload_n hx hb dX5_rounds_14 rfl (lv_at hl 0 rfl) ?_
      refine lv_iload_n hx hb dX5_rounds_15 rfl (lv_at hl 2 rfl) ?_
      obtain ⟨x3, hr4, hf⟩ := bd_some hf
      refine mw_callVi (rest := []) X hG hT.1 rfl (c_X5_may l dC dI cy a X.2.2.1 this hT M v2 hr4) (mw_cwV X 1 g_X5_108 hd_X5_may ⟨rfl, rfl⟩ ⟨Nat.le_of_ble_eq_true rfl, Nat.le_of_ble_eq_true rfl⟩) rfl hl.1 rfl (Nat.le_of_ble_eq_true rfl) dX5_rounds_16 (fun H locs hG => ?_)
      refine lv_if_eq (tgt := 36) hx hb dX5_rounds_19 (by decide) (fun c5 => ?_) (fun c5 => ?_)
      · have hf := itep c5 hf
        exact w_X5_rounds_L36 X hT ih hf hG (lv_sub hl [0, 1, 2] rfl)
      · have hf := iten c5 hf
        refine lv_aload_n hx hb dX5_rounds_22 rfl (lv_at hl 0 rfl) ?_
        refine lv_iconst (v := 0) hx hb dX5_rounds_23 (by decide) ?_
        refine lv_aload_n hx hb dX5_rounds_24 rfl (lv_at hl 0 rfl) ?_
        refine lv_iconst (v := 0) hx hb dX5_rounds_25 (by decide) ?_
        refine lv_iload_n hx hb dX5_rounds_26 rfl (lv_at hl 2 rfl) ?_
        obtain ⟨x6, hr7, hf⟩ := bd_some hf
        refine mw_callVi (rest := [.int (0 : Int32), .ref (a this)]) X hG hT.1 rfl (c_X5_firstOf l dC dI cy a X.2.2.1 this hT M (0 : Int32) v2 hr7) (mw_cwV X 2 g_X5_88 hd_X5_firstOf ⟨rfl, rfl⟩ ⟨Nat.le_of_ble_eq_true rfl, Nat.le_of_ble_eq_true rfl⟩) rfl hl.1 rfl (Nat.le_of_ble_eq_true rfl) dX5_rounds_27 (fun H locs hG => ?_)
        obtain ⟨M8, hr10, hf⟩ := bd_some hf
        refine mw_callVv (rest := []) X hG hT.1 rfl (c_X5_works l dC dI cy a X.2.2.1 this hT M (0 : Int32) x6 hr10) (mw_cwV X 2 g_X5_111 hd_X5_works ⟨rfl, rfl⟩ ⟨Nat.le_of_ble_eq_true rfl, Nat.le_of_ble_eq_true rfl⟩) rfl hl.1 rfl (Nat.le_of_ble_eq_true rfl) dX5_rounds_30 (fun H locs hG => ?_)
        obtain ⟨x11, ex11⟩ : ∃ y : Int32, y = v1 + (1 : Int32) := ⟨_, rfl⟩
        have hf := nm_of ex11 hf
        refine lv_iinc (v := x11) (lv' := [(1, .int x11), (0, .ref (a this)), (2, .int v2)]) hx hb dX5_rounds_33 hl (k := 1) rfl (by rw [ex11]; rfl) (by decide) rfl (fun ls hl => ?_)
        exact w_X5_rounds_L36 X hT ih hf hG (lv_sub hl [1, 0, 2] rfl)
set_option maxHeartbeats 4000000 in
set_option maxRecDepth 100000 in
theorem c_X5_rounds (l : Launch) (dC : Nat → ClassId) (dI : Nat → Nat → Nat) (cy : Nat → ClassId) (a : Nat → Nat) (ha : injU a) (this : Nat) (hT : K5 this) (M : Mem) {o : (Int32 × Mem)} (hf : f_X5_rounds M this = some o) : Met l yX5_rounds (wsU yX5_rounds cX5_rounds 3 (some .boolean)) ({ frames := 5, cells := 0, slots := 0, locals := 121 } : Room) (PU dC dI cy a [.ref (a this)] M) (QUi dC dI cy a o.1 o.2) 0 0 (AU a) := by
  refine mw_met (by decide) ha (Nat.le_of_ble_eq_true rfl) ?_
  intro p e s m below meth c ls X hG hl
  have hl : lv_has ls 3 [(0, .ref (a this))] := hl
  have X : XU dC dI cy a p s m c [.ref (a this)].toArray meth cX5_rounds 3 RX5 (some .boolean) := X
  have hx := X.1.1
  have hb := X.1.2.1
  have hown := X.1.2.2.2.1
  have hts := X.1.2.2.2.2
  rw [f_X5_rounds] at hf
  refine lv_iconst (v := 0) hx hb dX5_rounds_0 (by decide) ?_
  refine lv_istore_n (lv' := [(1, .int (0 : Int32)), (0, .ref (a this))]) hx hb dX5_rounds_1 rfl hl (by decide) rfl (fun ls hl => ?_)
  refine lv_iconst (v := 0) hx hb dX5_rounds_2 (by decide) ?_
  refine lv_istore_n (lv' := [(2, .int (0 : Int32)), (1, .int (0 : Int32)), (0, .ref (a this))]) hx hb dX5_rounds_3 rfl hl (by decide) rfl (fun ls hl => ?_)
  exact w_X5_rounds_L4 X hT 1000 _ _ _ _ _ _ hf hG (lv_sub hl [2, 1, 0] rfl)
/-! X5_leastTime -/
set_option maxHeartbeats 4000000 in
set_option maxRecDepth 100000 in
theorem w_X5_leastTime_L32 {l : Launch} {dC : Nat → ClassId} {dI : Nat → Nat → Nat} {cy : Nat → ClassId} {a : Nat → Nat} {p : Program} {e : Env} {s : State} {m : MethodId} {args : Array Value} {below : List Frame} {meth : Method} {c : Code} (X : XU dC dI cy a p s m c args meth cX5_leastTime 4 RX5 (some .int)) {M : Mem} {this : Nat} (hT : K5 this) {v2 : Int32} {s0 : Int32} {o : Int32} {k5 : Int32 → Int32 → Option Int32} (hk5 : ∀ (v1 : Int32) (v2 : Int32) (H : Heap) (locs : List Loc) (ls : Array Slot), k5 v1 v2 = some o → GU dC dI cy a s.heap M H locs → lv_has ls 4 [(0, .ref (a this)), (1, .int v1), (2, .int v2)] → W p l e ({ frames := 3, cells := 0, slots := 0, locals := 70 } : Room) s m args below meth c H locs 0 0 (MQ below (QUi dC dI cy a o M) args s 0 0 (AU a)) (F0 m 5 ls [])) {H : Heap} {locs : List Loc} {ls : Array Slot} (hf : f_X5_leastTime_L32 k5 M this v2 s0 = some o) (hG : GU dC dI cy a s.heap M H locs) (hl : lv_has ls 4 [(0, .ref (a this)), (2, .int v2)]) : W p l e ({ frames := 3, cells := 0, slots := 0, locals := 70 } : Room) s m args below meth c H locs 0 0 (MQ below (QUi dC dI cy a o M) args s 0 0 (AU a)) (F0 m 32 ls [.int s0]) := by
  have hx := X.1.1
  have hb := X.1.2.1
  have hown := X.1.2.2.2.1
  have hts := X.1.2.2.2.2
  rw [f_X5_leastTime_L32] at hf
  refine lv_istore_n (lv' := [(1, .int s0), (0, .ref (a this)), (2, .int v2)]) hx hb dX5_leastTime_32 rfl hl (by decide) rfl (fun ls hl => ?_)
  obtain ⟨x1, ex1⟩ : ∃ y : Int32, y = v2 + (1 : Int32) := ⟨_, rfl⟩
  have hf := nm_of ex1 hf
  refine lv_iinc (v := x1) (lv' := [(2, .int x1), (1, .int s0), (0, .ref (a this))]) hx hb dX5_leastTime_33 hl (k := 2) rfl (by rw [ex1]; rfl) (by decide) rfl (fun ls hl => ?_)
  refine lv_goto (tgt := 5) hx hb dX5_leastTime_36 (by decide) ?_
  exact hk5 _ _ _ _ _ hf hG (lv_sub hl [2, 1, 0] rfl)
set_option maxHeartbeats 4000000 in
set_option maxRecDepth 100000 in
theorem w_X5_leastTime_L5 {l : Launch} {dC : Nat → ClassId} {dI : Nat → Nat → Nat} {cy : Nat → ClassId} {a : Nat → Nat} {p : Program} {e : Env} {s : State} {m : MethodId} {args : Array Value} {below : List Frame} {meth : Method} {c : Code} (X : XU dC dI cy a p s m c args meth cX5_leastTime 4 RX5 (some .int)) {M : Mem} {this : Nat} (hT : K5 this) {o : Int32} : ∀ (n : Nat) (v1 : Int32) (v2 : Int32) (H : Heap) (locs : List Loc) (ls : Array Slot), f_X5_leastTime_L5 M this n v1 v2 = some o → GU dC dI cy a s.heap M H locs → lv_has ls 4 [(0, .ref (a this)), (1, .int v1), (2, .int v2)] → W p l e ({ frames := 3, cells := 0, slots := 0, locals := 70 } : Room) s m args below meth c H locs 0 0 (MQ below (QUi dC dI cy a o M) args s 0 0 (AU a)) (F0 m 5 ls []) := by
  have hx := X.1.1
  have hb := X.1.2.1
  have hown := X.1.2.2.2.1
  have hts := X.1.2.2.2.2
  intro n
  induction n with
  | zero => intro v1 v2 H locs ls hf; cases hf
  | succ n ih =>
    intro v1 v2 H locs ls hf hG hl
    rw [f_X5_leastTime_L5] at hf
    refine lv_iload_n hx hb dX5_leastTime_5 rfl (lv_at hl 2 rfl) ?_
    refine lv_aload_n hx hb dX5_leastTime_6 rfl (lv_at hl 0 rfl) ?_
    refine gf_X5_7 X hG hT dX5_leastTime_7 ?_
    refine lv_iconst (v := 0) hx hb dX5_leastTime_10 (by decide) ?_
    obtain ⟨hi1, hf⟩ := ck_some hf
    refine mw_iald X hG hT.2.1 hi1 dX5_leastTime_11 ?_
    refine lv_icmp_ge (tgt := 39) hx hb dX5_leastTime_12 (by decide) (fun c2 => ?_) (fun c2 => ?_)
    · have hf := itep c2 hf
      refine lv_iload_n hx hb dX5_leastTime_39 rfl (lv_at hl 1 rfl) ?_
      obtain rfl := Option.some.inj hf
      exact mw_iret X hG dX5_leastTime_40
    · have hf := iten c2 hf
      refine lv_aload_n hx hb dX5_leastTime_15 rfl (lv_at hl 0 rfl) ?_
      refine lv_iconst (v := 0) hx hb dX5_leastTime_16 (by decide) ?_
      refine lv_iload_n hx hb dX5_leastTime_17 rfl (lv_at hl 2 rfl) ?_
      obtain ⟨x3, hr4, hf⟩ := bd_some hf
      refine mw_callVi (rest := []) X hG hT.1 rfl (c_X5_firstTime l dC dI cy a X.2.2.1 this hT M (0 : Int32) v2 hr4) (mw_cwV X 2 g_X5_95 hd_X5_firstTime ⟨rfl, rfl⟩ ⟨Nat.le_of_ble_eq_true rfl, Nat.le_of_ble_eq_true rfl⟩) rfl hl.1 rfl (Nat.le_of_ble_eq_true rfl) dX5_leastTime_18 (fun H locs hG => ?_)
      refine lv_istore_n (lv' := [(3, .int x3), (0, .ref (a this)), (1, .int v1), (2, .int v2)]) hx hb dX5_leastTime_21 rfl hl (by decide) rfl (fun ls hl => ?_)
      refine lv_iload_n hx hb dX5_leastTime_22 rfl (lv_at hl 0 rfl) ?_
      refine lv_iload_n hx hb dX5_leastTime_23 rfl (lv_at hl 2 rfl) ?_
      refine lv_icmp_ge (tgt := 31) hx hb dX5_leastTime_24 (by decide) (fun c5 => ?_) (fun c5 => ?_)
      · have hf := itep c5 hf
        refine lv_iload_n hx hb dX5_leastTime_31 rfl (lv_at hl 2 rfl) ?_
        exact w_X5_leastTime_L32 X hT ih hf hG (lv_sub hl [1, 3] rfl)
      · have hf := iten c5 hf
        refine lv_iload_n hx hb dX5_leastTime_27 rfl (lv_at hl 0 rfl) ?_
        refine lv_goto (tgt := 32) hx hb dX5_leastTime_28 (by decide) ?_
        exact w_X5_leastTime_L32 X hT ih hf hG (lv_sub hl [1, 3] rfl)
set_option maxHeartbeats 4000000 in
set_option maxRecDepth 100000 in
theorem c_X5_leastTime (l : Launch) (dC : Nat → ClassId) (dI : Nat → Nat → Nat) (cy : Nat → ClassId) (a : Nat → Nat) (ha : injU a) (this : Nat) (hT : K5 this) (M : Mem) {o : Int32} (hf : f_X5_leastTime M this = some o) : Met l yX5_leastTime (wsU yX5_leastTime cX5_leastTime 4 (some .int)) ({ frames := 3, cells := 0, slots := 0, locals := 70 } : Room) (PU dC dI cy a [.ref (a this)] M) (QUi dC dI cy a o M) 0 0 (AU a) := by
  refine mw_met (by decide) ha (Nat.le_of_ble_eq_true rfl) ?_
  intro p e s m below meth c ls X hG hl
  have hl : lv_has ls 4 [(0, .ref (a this))] := hl
  have X : XU dC dI cy a p s m c [.ref (a this)].toArray meth cX5_leastTime 4 RX5 (some .int) := X
  have hx := X.1.1
  have hb := X.1.2.1
  have hown := X.1.2.2.2.1
  have hts := X.1.2.2.2.2
  rw [f_X5_leastTime] at hf
  refine lv_ldc (v := 99999999) hx hb hown (hts _ wd_ct_X5_91) dX5_leastTime_0 ?_
  refine lv_istore_n (lv' := [(1, .int (99999999 : Int32)), (0, .ref (a this))]) hx hb dX5_leastTime_2 rfl hl (by decide) rfl (fun ls hl => ?_)
  refine lv_iconst (v := 0) hx hb dX5_leastTime_3 (by decide) ?_
  refine lv_istore_n (lv' := [(2, .int (0 : Int32)), (1, .int (99999999 : Int32)), (0, .ref (a this))]) hx hb dX5_leastTime_4 rfl hl (by decide) rfl (fun ls hl => ?_)
  exact w_X5_leastTime_L5 X hT 1000 _ _ _ _ _ hf hG (lv_sub hl [2, 1, 0] rfl)
/-! X5_lets -/
set_option maxHeartbeats 4000000 in
set_option maxRecDepth 100000 in
theorem w_X5_lets_L41 {l : Launch} {dC : Nat → ClassId} {dI : Nat → Nat → Nat} {cy : Nat → ClassId} {a : Nat → Nat} {p : Program} {e : Env} {s : State} {m : MethodId} {args : Array Value} {below : List Frame} {meth : Method} {c : Code} (X : XU dC dI cy a p s m c args meth cX5_lets 3 RX5 (some .int)) {M : Mem} {this : Nat} (hT : K5 this) {v1 : Int32} {v2 : Int32} {o : (Int32 × Mem)} {k7 : Mem → Int32 → Option (Int32 × Mem)} (hk7 : ∀ (M : Mem) (v2 : Int32) (H : Heap) (locs : List Loc) (ls : Array Slot), k7 M v2 = some o → GU dC dI cy a s.heap M H locs → lv_has ls 3 [(0, .ref (a this)), (1, .int v1), (2, .int v2)] → W p l e ({ frames := 4, cells := 0, slots := 0, locals := 93 } : Room) s m args below meth c H locs 0 0 (MQ below (QUi dC dI cy a o.1 o.2) args s 0 0 (AU a)) (F0 m 7 ls [])) {H : Heap} {locs : List Loc} {ls : Array Slot} (hf : f_X5_lets_L41 k7 M this v1 v2 = some o) (hG : GU dC dI cy a s.heap M H locs) (hl : lv_has ls 3 [(0, .ref (a this)), (1, .int v1), (2, .int v2)]) : W p l e ({ frames := 4, cells := 0, slots := 0, locals := 93 } : Room) s m args below meth c H locs 0 0 (MQ below (QUi dC dI cy a o.1 o.2) args s 0 0 (AU a)) (F0 m 41 ls []) := by
  have hx := X.1.1
  have hb := X.1.2.1
  have hown := X.1.2.2.2.1
  have hts := X.1.2.2.2.2
  rw [f_X5_lets_L41] at hf
  obtain ⟨x1, ex1⟩ : ∃ y : Int32, y = v2 + (1 : Int32) := ⟨_, rfl⟩
  have hf := nm_of ex1 hf
  refine lv_iinc (v := x1) (lv' := [(2, .int x1), (0, .ref (a this)), (1, .int v1)]) hx hb dX5_lets_41 hl (k := 2) rfl (by rw [ex1]; rfl) (by decide) rfl (fun ls hl => ?_)
  refine lv_goto (tgt := 7) hx hb dX5_lets_44 (by decide) ?_
  exact hk7 _ _ _ _ _ hf hG (lv_sub hl [1, 2, 0] rfl)
set_option maxHeartbeats 4000000 in
set_option maxRecDepth 100000 in
theorem w_X5_lets_L17 {l : Launch} {dC : Nat → ClassId} {dI : Nat → Nat → Nat} {cy : Nat → ClassId} {a : Nat → Nat} {p : Program} {e : Env} {s : State} {m : MethodId} {args : Array Value} {below : List Frame} {meth : Method} {c : Code} (X : XU dC dI cy a p s m c args meth cX5_lets 3 RX5 (some .int)) {this : Nat} (hT : K5 this) {v1 : Int32} {v2 : Int32} {o : (Int32 × Mem)} {k7 : Mem → Int32 → Option (Int32 × Mem)} (hk7 : ∀ (M : Mem) (v2 : Int32) (H : Heap) (locs : List Loc) (ls : Array Slot), k7 M v2 = some o → GU dC dI cy a s.heap M H locs → lv_has ls 3 [(0, .ref (a this)), (1, .int v1), (2, .int v2)] → W p l e ({ frames := 4, cells := 0, slots := 0, locals := 93 } : Room) s m args below meth c H locs 0 0 (MQ below (QUi dC dI cy a o.1 o.2) args s 0 0 (AU a)) (F0 m 7 ls [])) : ∀ (n : Nat) (M : Mem) (H : Heap) (locs : List Loc) (ls : Array Slot), f_X5_lets_L17 k7 this v1 v2 n M = some o → GU dC dI cy a s.heap M H locs → lv_has ls 3 [(0, .ref (a this)), (1, .int v1), (2, .int v2)] → W p l e ({ frames := 4, cells := 0, slots := 0, locals := 93 } : Room) s m args below meth c H locs 0 0 (MQ below (QUi dC dI cy a o.1 o.2) args s 0 0 (AU a)) (F0 m 17 ls []) := by
  have hx := X.1.1
  have hb := X.1.2.1
  have hown := X.1.2.2.2.1
  have hts := X.1.2.2.2.2
  intro n
  induction n with
  | zero => intro M H locs ls hf; cases hf
  | succ n ih =>
    intro M H locs ls hf hG hl
    rw [f_X5_lets_L17] at hf
    refine lv_aload_n hx hb dX5_lets_17 rfl (lv_at hl 0 rfl) ?_
    refine lv_iconst (v := 0) hx hb dX5_lets_18 (by decide) ?_
    refine lv_iload_n hx hb dX5_lets_19 rfl (lv_at hl 2 rfl) ?_
    obtain ⟨x1, hr2, hf⟩ := bd_some hf
    refine mw_callVi (rest := []) X hG hT.1 rfl (c_X5_firstTime l dC dI cy a X.2.2.1 this hT M (0 : Int32) v2 hr2) (mw_cwV X 2 g_X5_95 hd_X5_firstTime ⟨rfl, rfl⟩ ⟨Nat.le_of_ble_eq_true rfl, Nat.le_of_ble_eq_true rfl⟩) rfl hl.1 rfl (Nat.le_of_ble_eq_true rfl) dX5_lets_20 (fun H locs hG => ?_)
    refine lv_iload_n hx hb dX5_lets_23 rfl (lv_at hl 1 rfl) ?_
    refine lv_icmp_ne (tgt := 41) hx hb dX5_lets_24 (by decide) (fun c3 => ?_) (fun c3 => ?_)
    · have hf := iten c3 hf
      exact w_X5_lets_L41 X hT hk7 hf hG (lv_sub hl [0, 1, 2] rfl)
    · have hf := itep c3 hf
      refine lv_aload_n hx hb dX5_lets_27 rfl (lv_at hl 0 rfl) ?_
      refine lv_iconst (v := 0) hx hb dX5_lets_28 (by decide) ?_
      refine lv_aload_n hx hb dX5_lets_29 rfl (lv_at hl 0 rfl) ?_
      refine lv_iconst (v := 0) hx hb dX5_lets_30 (by decide) ?_
      refine lv_iload_n hx hb dX5_lets_31 rfl (lv_at hl 2 rfl) ?_
      obtain ⟨x4, hr5, hf⟩ := bd_some hf
      refine mw_callVi (rest := [.int (0 : Int32), .ref (a this)]) X hG hT.1 rfl (c_X5_firstOf l dC dI cy a X.2.2.1 this hT M (0 : Int32) v2 hr5) (mw_cwV X 2 g_X5_88 hd_X5_firstOf ⟨rfl, rfl⟩ ⟨Nat.le_of_ble_eq_true rfl, Nat.le_of_ble_eq_true rfl⟩) rfl hl.1 rfl (Nat.le_of_ble_eq_true rfl) dX5_lets_32 (fun H locs hG => ?_)
      obtain ⟨M6, hr8, hf⟩ := bd_some hf
      refine mw_callVv (rest := []) X hG hT.1 rfl (c_X5_works l dC dI cy a X.2.2.1 this hT M (0 : Int32) x4 hr8) (mw_cwV X 2 g_X5_111 hd_X5_works ⟨rfl, rfl⟩ ⟨Nat.le_of_ble_eq_true rfl, Nat.le_of_ble_eq_true rfl⟩) rfl hl.1 rfl (Nat.le_of_ble_eq_true rfl) dX5_lets_35 (fun H locs hG => ?_)
      refine lv_goto (tgt := 17) hx hb dX5_lets_38 (by decide) ?_
      exact ih _ _ _ _ hf hG (lv_sub hl [0, 1, 2] rfl)
set_option maxHeartbeats 4000000 in
set_option maxRecDepth 100000 in
theorem w_X5_lets_L104 {l : Launch} {dC : Nat → ClassId} {dI : Nat → Nat → Nat} {cy : Nat → ClassId} {a : Nat → Nat} {p : Program} {e : Env} {s : State} {m : MethodId} {args : Array Value} {below : List Frame} {meth : Method} {c : Code} (X : XU dC dI cy a p s m c args meth cX5_lets 3 RX5 (some .int)) {M : Mem} {this : Nat} (hT : K5 this) {v1 : Int32} {v2 : Int32} {s0 : Int32} {s1 : Int32} {o : (Int32 × Mem)} {k49 : Mem → Int32 → Option (Int32 × Mem)} (hk49 : ∀ (M : Mem) (v2 : Int32) (H : Heap) (locs : List Loc) (ls : Array Slot), k49 M v2 = some o → GU dC dI cy a s.heap M H locs → lv_has ls 3 [(0, .ref (a this)), (1, .int v1), (2, .int v2)] → W p l e ({ frames := 4, cells := 0, slots := 0, locals := 93 } : Room) s m args below meth c H locs 0 0 (MQ below (QUi dC dI cy a o.1 o.2) args s 0 0 (AU a)) (F0 m 49 ls [])) {H : Heap} {locs : List Loc} {ls : Array Slot} (hf : f_X5_lets_L104 k49 M this v1 v2 s0 s1 = some o) (hG : GU dC dI cy a s.heap M H locs) (hl : lv_has ls 3 [(0, .ref (a this)), (1, .int v1), (2, .int v2)]) : W p l e ({ frames := 4, cells := 0, slots := 0, locals := 93 } : Room) s m args below meth c H locs 0 0 (MQ below (QUi dC dI cy a o.1 o.2) args s 0 0 (AU a)) (F0 m 104 ls [.int s0, .int s1, .ref (a (this + 1))]) := by
  have hx := X.1.1
  have hb := X.1.2.1
  have hown := X.1.2.2.2.1
  have hts := X.1.2.2.2.2
  rw [f_X5_lets_L104] at hf
  obtain ⟨hi1, hf⟩ := ck_some hf
  refine mw_iast X hG hT.2.1 hi1 dX5_lets_104 (fun M2 H locs eM2 hG => ?_)
  have hf := nm_of eM2 hf
  obtain ⟨x3, ex3⟩ : ∃ y : Int32, y = v2 + (1 : Int32) := ⟨_, rfl⟩
  have hf := nm_of ex3 hf
  refine lv_iinc (v := x3) (lv' := [(2, .int x3), (0, .ref (a this)), (1, .int v1)]) hx hb dX5_lets_105 hl (k := 2) rfl (by rw [ex3]; rfl) (by decide) rfl (fun ls hl => ?_)
  refine lv_goto (tgt := 49) hx hb dX5_lets_108 (by decide) ?_
  exact hk49 _ _ _ _ _ hf hG (lv_sub hl [1, 2, 0] rfl)
set_option maxHeartbeats 4000000 in
set_option maxRecDepth 100000 in
theorem w_X5_lets_L49 {l : Launch} {dC : Nat → ClassId} {dI : Nat → Nat → Nat} {cy : Nat → ClassId} {a : Nat → Nat} {p : Program} {e : Env} {s : State} {m : MethodId} {args : Array Value} {below : List Frame} {meth : Method} {c : Code} (X : XU dC dI cy a p s m c args meth cX5_lets 3 RX5 (some .int)) {this : Nat} (hT : K5 this) {v1 : Int32} {o : (Int32 × Mem)} : ∀ (n : Nat) (M : Mem) (v2 : Int32) (H : Heap) (locs : List Loc) (ls : Array Slot), f_X5_lets_L49 this v1 n M v2 = some o → GU dC dI cy a s.heap M H locs → lv_has ls 3 [(0, .ref (a this)), (1, .int v1), (2, .int v2)] → W p l e ({ frames := 4, cells := 0, slots := 0, locals := 93 } : Room) s m args below meth c H locs 0 0 (MQ below (QUi dC dI cy a o.1 o.2) args s 0 0 (AU a)) (F0 m 49 ls []) := by
  have hx := X.1.1
  have hb := X.1.2.1
  have hown := X.1.2.2.2.1
  have hts := X.1.2.2.2.2
  intro n
  induction n with
  | zero => intro M v2 H locs ls hf; cases hf
  | succ n ih =>
    intro M v2 H locs ls hf hG hl
    rw [f_X5_lets_L49] at hf
    refine lv_iload_n hx hb dX5_lets_49 rfl (lv_at hl 2 rfl) ?_
    refine lv_aload_n hx hb dX5_lets_50 rfl (lv_at hl 0 rfl) ?_
    refine gf_X5_7 X hG hT dX5_lets_51 ?_
    refine lv_iconst (v := 1) hx hb dX5_lets_54 (by decide) ?_
    obtain ⟨hi1, hf⟩ := ck_some hf
    refine mw_iald X hG hT.2.1 hi1 dX5_lets_55 ?_
    refine lv_icmp_ge (tgt := 111) hx hb dX5_lets_56 (by decide) (fun c2 => ?_) (fun c2 => ?_)
    · have hf := itep c2 hf
      refine lv_aload_n hx hb dX5_lets_111 rfl (lv_at hl 0 rfl) ?_
      refine gf_X5_7 X hG hT dX5_lets_112 ?_
      refine lv_bipush (v := 6) hx hb dX5_lets_115 (by decide) ?_
      refine lv_dup2_11 hx hb dX5_lets_117 rfl rfl ?_
      obtain ⟨hi3, hf⟩ := ck_some hf
      refine mw_iald X hG hT.2.1 hi3 dX5_lets_118 ?_
      refine lv_iconst (v := 1) hx hb dX5_lets_119 (by decide) ?_
      refine lv_iadd hx hb dX5_lets_120 ?_
      obtain ⟨hi4, hf⟩ := ck_some hf
      refine mw_iast X hG hT.2.1 hi4 dX5_lets_121 (fun M5 H locs eM5 hG => ?_)
      have hf := nm_of eM5 hf
      refine lv_iload_n hx hb dX5_lets_122 rfl (lv_at hl 1 rfl) ?_
      obtain rfl := Option.some.inj hf
      exact mw_iret X hG dX5_lets_123
    · have hf := iten c2 hf
      refine lv_aload_n hx hb dX5_lets_59 rfl (lv_at hl 0 rfl) ?_
      refine gf_X5_7 X hG hT dX5_lets_60 ?_
      refine lv_iconst (v := 0) hx hb dX5_lets_63 (by decide) ?_
      refine lv_iload_n hx hb dX5_lets_64 rfl (lv_at hl 2 rfl) ?_
      obtain ⟨x6, hr7, hf⟩ := bd_some hf
      refine mw_callSi (rest := [.ref (a (this + 1))]) X hG (c_X5_at l dC dI cy a X.2.2.1  M (0 : Int32) v2 hr7) (mw_cwS X 2 g_X5_34 hd_X5_at ⟨rfl, rfl⟩ ⟨Nat.le_of_ble_eq_true rfl, Nat.le_of_ble_eq_true rfl⟩) rfl hl.1 rfl (Nat.le_of_ble_eq_true rfl) dX5_lets_65 (fun H locs hG => ?_)
      refine lv_iconst (v := 4) hx hb dX5_lets_68 (by decide) ?_
      refine lv_iadd hx hb dX5_lets_69 ?_
      refine lv_aload_n hx hb dX5_lets_70 rfl (lv_at hl 0 rfl) ?_
      refine gf_X5_7 X hG hT dX5_lets_71 ?_
      refine lv_iconst (v := 0) hx hb dX5_lets_74 (by decide) ?_
      refine lv_iload_n hx hb dX5_lets_75 rfl (lv_at hl 2 rfl) ?_
      obtain ⟨x8, hr9, hf⟩ := bd_some hf
      refine mw_callSi (rest := [.ref (a (this + 1)), .int (x6 + (4 : Int32)), .ref (a (this + 1))]) X hG (c_X5_at l dC dI cy a X.2.2.1  M (0 : Int32) v2 hr9) (mw_cwS X 2 g_X5_34 hd_X5_at ⟨rfl, rfl⟩ ⟨Nat.le_of_ble_eq_true rfl, Nat.le_of_ble_eq_true rfl⟩) rfl hl.1 rfl (Nat.le_of_ble_eq_true rfl) dX5_lets_76 (fun H locs hG => ?_)
      refine lv_iconst (v := 4) hx hb dX5_lets_79 (by decide) ?_
      refine lv_iadd hx hb dX5_lets_80 ?_
      obtain ⟨hi10, hf⟩ := ck_some hf
      refine mw_iald X hG hT.2.1 hi10 dX5_lets_81 ?_
      refine lv_iload_n hx hb dX5_lets_82 rfl (lv_at hl 1 rfl) ?_
      refine lv_icmp_le (tgt := 101) hx hb dX5_lets_83 (by decide) (fun c11 => ?_) (fun c11 => ?_)
      · have hf := itep c11 hf
        refine lv_iload_n hx hb dX5_lets_101 rfl (lv_at hl 1 rfl) ?_
        refine lv_iconst (v := 1) hx hb dX5_lets_102 (by decide) ?_
        refine lv_iadd hx hb dX5_lets_103 ?_
        exact w_X5_lets_L104 X hT ih hf hG (lv_sub hl [0, 1, 2] rfl)
      · have hf := iten c11 hf
        refine lv_aload_n hx hb dX5_lets_86 rfl (lv_at hl 0 rfl) ?_
        refine gf_X5_7 X hG hT dX5_lets_87 ?_
        refine lv_iconst (v := 0) hx hb dX5_lets_90 (by decide) ?_
        refine lv_iload_n hx hb dX5_lets_91 rfl (lv_at hl 2 rfl) ?_
        obtain ⟨x12, hr13, hf⟩ := bd_some hf
        refine mw_callSi (rest := [.ref (a (this + 1)), .int (x6 + (4 : Int32)), .ref (a (this + 1))]) X hG (c_X5_at l dC dI cy a X.2.2.1  M (0 : Int32) v2 hr13) (mw_cwS X 2 g_X5_34 hd_X5_at ⟨rfl, rfl⟩ ⟨Nat.le_of_ble_eq_true rfl, Nat.le_of_ble_eq_true rfl⟩) rfl hl.1 rfl (Nat.le_of_ble_eq_true rfl) dX5_lets_92 (fun H locs hG => ?_)
        refine lv_iconst (v := 4) hx hb dX5_lets_95 (by decide) ?_
        refine lv_iadd hx hb dX5_lets_96 ?_
        obtain ⟨hi14, hf⟩ := ck_some hf
        refine mw_iald X hG hT.2.1 hi14 dX5_lets_97 ?_
        refine lv_goto (tgt := 104) hx hb dX5_lets_98 (by decide) ?_
        exact w_X5_lets_L104 X hT ih hf hG (lv_sub hl [0, 1, 2] rfl)
set_option maxHeartbeats 4000000 in
set_option maxRecDepth 100000 in
theorem w_X5_lets_L47 {l : Launch} {dC : Nat → ClassId} {dI : Nat → Nat → Nat} {cy : Nat → ClassId} {a : Nat → Nat} {p : Program} {e : Env} {s : State} {m : MethodId} {args : Array Value} {below : List Frame} {meth : Method} {c : Code} (X : XU dC dI cy a p s m c args meth cX5_lets 3 RX5 (some .int)) {M : Mem} {this : Nat} (hT : K5 this) {v1 : Int32} {o : (Int32 × Mem)} {H : Heap} {locs : List Loc} {ls : Array Slot} (hf : f_X5_lets_L47 M this v1 = some o) (hG : GU dC dI cy a s.heap M H locs) (hl : lv_has ls 3 [(0, .ref (a this)), (1, .int v1)]) : W p l e ({ frames := 4, cells := 0, slots := 0, locals := 93 } : Room) s m args below meth c H locs 0 0 (MQ below (QUi dC dI cy a o.1 o.2) args s 0 0 (AU a)) (F0 m 47 ls []) := by
  have hx := X.1.1
  have hb := X.1.2.1
  have hown := X.1.2.2.2.1
  have hts := X.1.2.2.2.2
  rw [f_X5_lets_L47] at hf
  refine lv_iconst (v := 0) hx hb dX5_lets_47 (by decide) ?_
  refine lv_istore_n (lv' := [(2, .int (0 : Int32)), (0, .ref (a this)), (1, .int v1)]) hx hb dX5_lets_48 rfl hl (by decide) rfl (fun ls hl => ?_)
  exact w_X5_lets_L49 X hT 1000 _ _ _ _ _ hf hG (lv_sub hl [1, 2, 0] rfl)
set_option maxHeartbeats 4000000 in
set_option maxRecDepth 100000 in
theorem w_X5_lets_L7 {l : Launch} {dC : Nat → ClassId} {dI : Nat → Nat → Nat} {cy : Nat → ClassId} {a : Nat → Nat} {p : Program} {e : Env} {s : State} {m : MethodId} {args : Array Value} {below : List Frame} {meth : Method} {c : Code} (X : XU dC dI cy a p s m c args meth cX5_lets 3 RX5 (some .int)) {this : Nat} (hT : K5 this) {v1 : Int32} {o : (Int32 × Mem)} : ∀ (n : Nat) (M : Mem) (v2 : Int32) (H : Heap) (locs : List Loc) (ls : Array Slot), f_X5_lets_L7 this v1 n M v2 = some o → GU dC dI cy a s.heap M H locs → lv_has ls 3 [(0, .ref (a this)), (1, .int v1), (2, .int v2)] → W p l e ({ frames := 4, cells := 0, slots := 0, locals := 93 } : Room) s m args below meth c H locs 0 0 (MQ below (QUi dC dI cy a o.1 o.2) args s 0 0 (AU a)) (F0 m 7 ls []) := by
  have hx := X.1.1
  have hb := X.1.2.1
  have hown := X.1.2.2.2.1
  have hts := X.1.2.2.2.2
  intro n
  induction n with
  | zero => intro M v2 H locs ls hf; cases hf
  | succ n ih =>
    intro M v2 H locs ls hf hG hl
    rw [f_X5_lets_L7] at hf
    refine lv_iload_n hx hb dX5_lets_7 rfl (lv_at hl 2 rfl) ?_
    refine lv_aload_n hx hb dX5_lets_8 rfl (lv_at hl 0 rfl) ?_
    refine gf_X5_7 X hG hT dX5_lets_9 ?_
    refine lv_iconst (v := 0) hx hb dX5_lets_12 (by decide) ?_
    obtain ⟨hi1, hf⟩ := ck_some hf
    refine mw_iald X hG hT.2.1 hi1 dX5_lets_13 ?_
    refine lv_icmp_ge (tgt := 47) hx hb dX5_lets_14 (by decide) (fun c2 => ?_) (fun c2 => ?_)
    · have hf := itep c2 hf
      exact w_X5_lets_L47 X hT hf hG (lv_sub hl [0, 1] rfl)
    · have hf := iten c2 hf
      exact w_X5_lets_L17 X hT ih 1000 _ _ _ _ hf hG (lv_sub hl [0, 1, 2] rfl)
set_option maxHeartbeats 4000000 in
set_option maxRecDepth 100000 in
theorem c_X5_lets (l : Launch) (dC : Nat → ClassId) (dI : Nat → Nat → Nat) (cy : Nat → ClassId) (a : Nat → Nat) (ha : injU a) (this : Nat) (hT : K5 this) (M : Mem) {o : (Int32 × Mem)} (hf : f_X5_lets M this = some o) : Met l yX5_lets (wsU yX5_lets cX5_lets 3 (some .int)) ({ frames := 4, cells := 0, slots := 0, locals := 93 } : Room) (PU dC dI cy a [.ref (a this)] M) (QUi dC dI cy a o.1 o.2) 0 0 (AU a) := by
  refine mw_met (by decide) ha (Nat.le_of_ble_eq_true rfl) ?_
  intro p e s m below meth c ls X hG hl
  have hl : lv_has ls 3 [(0, .ref (a this))] := hl
  have X : XU dC dI cy a p s m c [.ref (a this)].toArray meth cX5_lets 3 RX5 (some .int) := X
  have hx := X.1.1
  have hb := X.1.2.1
  have hown := X.1.2.2.2.1
  have hts := X.1.2.2.2.2
  rw [f_X5_lets] at hf
  refine lv_aload_n hx hb dX5_lets_0 rfl (lv_at hl 0 rfl) ?_
  obtain ⟨x1, hr2, hf⟩ := bd_some hf
  refine mw_callVi (rest := []) X hG hT.1 rfl (c_X5_leastTime l dC dI cy a X.2.2.1 this hT M  hr2) (mw_cwV X 0 g_X5_118 hd_X5_leastTime ⟨rfl, rfl⟩ ⟨Nat.le_of_ble_eq_true rfl, Nat.le_of_ble_eq_true rfl⟩) rfl hl.1 rfl (Nat.le_of_ble_eq_true rfl) dX5_lets_1 (fun H locs hG => ?_)
  refine lv_istore_n (lv' := [(1, .int x1), (0, .ref (a this))]) hx hb dX5_lets_4 rfl hl (by decide) rfl (fun ls hl => ?_)
  refine lv_iconst (v := 0) hx hb dX5_lets_5 (by decide) ?_
  refine lv_istore_n (lv' := [(2, .int (0 : Int32)), (1, .int x1), (0, .ref (a this))]) hx hb dX5_lets_6 rfl hl (by decide) rfl (fun ls hl => ?_)
  exact w_X5_lets_L7 X hT 1000 _ _ _ _ _ hf hG (lv_sub hl [2, 1, 0] rfl)
/-! X5_ringOf -/
set_option maxHeartbeats 4000000 in
set_option maxRecDepth 100000 in
theorem w_X5_ringOf_L24 {l : Launch} {dC : Nat → ClassId} {dI : Nat → Nat → Nat} {cy : Nat → ClassId} {a : Nat → Nat} {p : Program} {e : Env} {s : State} {m : MethodId} {args : Array Value} {below : List Frame} {meth : Method} {c : Code} (X : XU dC dI cy a p s m c args meth cX5_ringOf 6 RX5 (some .int)) {M : Mem} {this : Nat} (hT : K5 this) {v1 : Int32} {v2 : Int32} {s0 : Int32} {s1 : Int32} {o : (Int32 × Mem)} {k2 : Mem → Int32 → Option (Int32 × Mem)} (hk2 : ∀ (M : Mem) (v2 : Int32) (H : Heap) (locs : List Loc) (ls : Array Slot), k2 M v2 = some o → GU dC dI cy a s.heap M H locs → lv_has ls 6 [(0, .ref (a this)), (1, .int v1), (2, .int v2)] → W p l e ({ frames := 1, cells := 0, slots := 0, locals := 21 } : Room) s m args below meth c H locs 0 0 (MQ below (QUi dC dI cy a o.1 o.2) args s 0 0 (AU a)) (F0 m 2 ls [])) {H : Heap} {locs : List Loc} {ls : Array Slot} (hf : f_X5_ringOf_L24 k2 M this v1 v2 s0 s1 = some o) (hG : GU dC dI cy a s.heap M H locs) (hl : lv_has ls 6 [(0, .ref (a this)), (1, .int v1), (2, .int v2)]) : W p l e ({ frames := 1, cells := 0, slots := 0, locals := 21 } : Room) s m args below meth c H locs 0 0 (MQ below (QUi dC dI cy a o.1 o.2) args s 0 0 (AU a)) (F0 m 24 ls [.int s0, .int s1, .ref (a (this + 4))]) := by
  have hx := X.1.1
  have hb := X.1.2.1
  have hown := X.1.2.2.2.1
  have hts := X.1.2.2.2.2
  rw [f_X5_ringOf_L24] at hf
  obtain ⟨hi1, hf⟩ := ck_some hf
  refine mw_iast X hG hT.2.2.2.2.1 hi1 dX5_ringOf_24 (fun M2 H locs eM2 hG => ?_)
  have hf := nm_of eM2 hf
  obtain ⟨x3, ex3⟩ : ∃ y : Int32, y = v2 + (1 : Int32) := ⟨_, rfl⟩
  have hf := nm_of ex3 hf
  refine lv_iinc (v := x3) (lv' := [(2, .int x3), (0, .ref (a this)), (1, .int v1)]) hx hb dX5_ringOf_25 hl (k := 2) rfl (by rw [ex3]; rfl) (by decide) rfl (fun ls hl => ?_)
  refine lv_goto (tgt := 2) hx hb dX5_ringOf_28 (by decide) ?_
  exact hk2 _ _ _ _ _ hf hG (lv_sub hl [1, 2, 0] rfl)
set_option maxHeartbeats 4000000 in
set_option maxRecDepth 100000 in
theorem w_X5_ringOf_L127 {l : Launch} {dC : Nat → ClassId} {dI : Nat → Nat → Nat} {cy : Nat → ClassId} {a : Nat → Nat} {p : Program} {e : Env} {s : State} {m : MethodId} {args : Array Value} {below : List Frame} {meth : Method} {c : Code} (X : XU dC dI cy a p s m c args meth cX5_ringOf 6 RX5 (some .int)) {M : Mem} {this : Nat} (hT : K5 this) {v1 : Int32} {v2 : Int32} {v3 : Int32} {s0 : Int32} {s1 : Int32} {o : (Int32 × Mem)} {k33 : Mem → Int32 → Option (Int32 × Mem)} (hk33 : ∀ (M : Mem) (v2 : Int32) (H : Heap) (locs : List Loc) (ls : Array Slot), k33 M v2 = some o → GU dC dI cy a s.heap M H locs → lv_has ls 6 [(0, .ref (a this)), (1, .int v1), (2, .int v2)] → W p l e ({ frames := 1, cells := 0, slots := 0, locals := 21 } : Room) s m args below meth c H locs 0 0 (MQ below (QUi dC dI cy a o.1 o.2) args s 0 0 (AU a)) (F0 m 33 ls [])) {k41 : Mem → Int32 → Option (Int32 × Mem)} (hk41 : ∀ (M : Mem) (v3 : Int32) (H : Heap) (locs : List Loc) (ls : Array Slot), k41 M v3 = some o → GU dC dI cy a s.heap M H locs → lv_has ls 6 [(0, .ref (a this)), (1, .int v1), (2, .int v2), (3, .int v3)] → W p l e ({ frames := 1, cells := 0, slots := 0, locals := 21 } : Room) s m args below meth c H locs 0 0 (MQ below (QUi dC dI cy a o.1 o.2) args s 0 0 (AU a)) (F0 m 41 ls [])) {H : Heap} {locs : List Loc} {ls : Array Slot} (hf : f_X5_ringOf_L127 k33 k41 M this v1 v2 v3 s0 s1 = some o) (hG : GU dC dI cy a s.heap M H locs) (hl : lv_has ls 6 [(0, .ref (a this)), (1, .int v1), (2, .int v2), (3, .int v3)]) : W p l e ({ frames := 1, cells := 0, slots := 0, locals := 21 } : Room) s m args below meth c H locs 0 0 (MQ below (QUi dC dI cy a o.1 o.2) args s 0 0 (AU a)) (F0 m 127 ls [.int s0, .int s1, .ref (a (this + 4))]) := by
  have hx := X.1.1
  have hb := X.1.2.1
  have hown := X.1.2.2.2.1
  have hts := X.1.2.2.2.2
  rw [f_X5_ringOf_L127] at hf
  obtain ⟨hi1, hf⟩ := ck_some hf
  refine mw_iast X hG hT.2.2.2.2.1 hi1 dX5_ringOf_127 (fun M2 H locs eM2 hG => ?_)
  have hf := nm_of eM2 hf
  obtain ⟨x3, ex3⟩ : ∃ y : Int32, y = v3 + (1 : Int32) := ⟨_, rfl⟩
  have hf := nm_of ex3 hf
  refine lv_iinc (v := x3) (lv' := [(3, .int x3), (0, .ref (a this)), (1, .int v1), (2, .int v2)]) hx hb dX5_ringOf_128 hl (k := 3) rfl (by rw [ex3]; rfl) (by decide) rfl (fun ls hl => ?_)
  refine lv_goto (tgt := 41) hx hb dX5_ringOf_131 (by decide) ?_
  exact hk41 _ _ _ _ _ hf hG (lv_sub hl [1, 2, 3, 0] rfl)
set_option maxHeartbeats 4000000 in
set_option maxRecDepth 100000 in
theorem w_X5_ringOf_L134 {l : Launch} {dC : Nat → ClassId} {dI : Nat → Nat → Nat} {cy : Nat → ClassId} {a : Nat → Nat} {p : Program} {e : Env} {s : State} {m : MethodId} {args : Array Value} {below : List Frame} {meth : Method} {c : Code} (X : XU dC dI cy a p s m c args meth cX5_ringOf 6 RX5 (some .int)) {M : Mem} {this : Nat} (hT : K5 this) {v1 : Int32} {v2 : Int32} {o : (Int32 × Mem)} {k33 : Mem → Int32 → Option (Int32 × Mem)} (hk33 : ∀ (M : Mem) (v2 : Int32) (H : Heap) (locs : List Loc) (ls : Array Slot), k33 M v2 = some o → GU dC dI cy a s.heap M H locs → lv_has ls 6 [(0, .ref (a this)), (1, .int v1), (2, .int v2)] → W p l e ({ frames := 1, cells := 0, slots := 0, locals := 21 } : Room) s m args below meth c H locs 0 0 (MQ below (QUi dC dI cy a o.1 o.2) args s 0 0 (AU a)) (F0 m 33 ls [])) {H : Heap} {locs : List Loc} {ls : Array Slot} (hf : f_X5_ringOf_L134 k33 M this v1 v2 = some o) (hG : GU dC dI cy a s.heap M H locs) (hl : lv_has ls 6 [(0, .ref (a this)), (1, .int v1), (2, .int v2)]) : W p l e ({ frames := 1, cells := 0, slots := 0, locals := 21 } : Room) s m args below meth c H locs 0 0 (MQ below (QUi dC dI cy a o.1 o.2) args s 0 0 (AU a)) (F0 m 134 ls []) := by
  have hx := X.1.1
  have hb := X.1.2.1
  have hown := X.1.2.2.2.1
  have hts := X.1.2.2.2.2
  rw [f_X5_ringOf_L134] at hf
  obtain ⟨x1, ex1⟩ : ∃ y : Int32, y = v2 + (1 : Int32) := ⟨_, rfl⟩
  have hf := nm_of ex1 hf
  refine lv_iinc (v := x1) (lv' := [(2, .int x1), (0, .ref (a this)), (1, .int v1)]) hx hb dX5_ringOf_134 hl (k := 2) rfl (by rw [ex1]; rfl) (by decide) rfl (fun ls hl => ?_)
  refine lv_goto (tgt := 33) hx hb dX5_ringOf_137 (by decide) ?_
  exact hk33 _ _ _ _ _ hf hG (lv_sub hl [1, 2, 0] rfl)
set_option maxHeartbeats 4000000 in
set_option maxRecDepth 100000 in
theorem w_X5_ringOf_L41 {l : Launch} {dC : Nat → ClassId} {dI : Nat → Nat → Nat} {cy : Nat → ClassId} {a : Nat → Nat} {p : Program} {e : Env} {s : State} {m : MethodId} {args : Array Value} {below : List Frame} {meth : Method} {c : Code} (X : XU dC dI cy a p s m c args meth cX5_ringOf 6 RX5 (some .int)) {this : Nat} (hT : K5 this) {v1 : Int32} {v2 : Int32} {o : (Int32 × Mem)} {k33 : Mem → Int32 → Option (Int32 × Mem)} (hk33 : ∀ (M : Mem) (v2 : Int32) (H : Heap) (locs : List Loc) (ls : Array Slot), k33 M v2 = some o → GU dC dI cy a s.heap M H locs → lv_has ls 6 [(0, .ref (a this)), (1, .int v1), (2, .int v2)] → W p l e ({ frames := 1, cells := 0, slots := 0, locals := 21 } : Room) s m args below meth c H locs 0 0 (MQ below (QUi dC dI cy a o.1 o.2) args s 0 0 (AU a)) (F0 m 33 ls [])) : ∀ (n : Nat) (M : Mem) (v3 : Int32) (H : Heap) (locs : List Loc) (ls : Array Slot), f_X5_ringOf_L41 k33 this v1 v2 n M v3 = some o → GU dC dI cy a s.heap M H locs → lv_has ls 6 [(0, .ref (a this)), (1, .int v1), (2, .int v2), (3, .int v3)] → W p l e ({ frames := 1, cells := 0, slots := 0, locals := 21 } : Room) s m args below meth c H locs 0 0 (MQ below (QUi dC dI cy a o.1 o.2) args s 0 0 (AU a)) (F0 m 41 ls []) := by
  have hx := X.1.1
  have hb := X.1.2.1
  have hown := X.1.2.2.2.1
  have hts := X.1.2.2.2.2
  intro n
  induction n with
  | zero => intro M v3 H locs ls hf; cases hf
  | succ n ih =>
    intro M v3 H locs ls hf hG hl
    rw [f_X5_ringOf_L41] at hf
    refine lv_iload_n hx hb dX5_ringOf_41 rfl (lv_at hl 3 rfl) ?_
    refine lv_aload_n hx hb dX5_ringOf_42 rfl (lv_at hl 0 rfl) ?_
    refine gf_X5_7 X hG hT dX5_ringOf_43 ?_
    refine lv_iconst (v := 1) hx hb dX5_ringOf_46 (by decide) ?_
    obtain ⟨hi1, hf⟩ := ck_some hf
    refine mw_iald X hG hT.2.1 hi1 dX5_ringOf_47 ?_
    refine lv_icmp_ge (tgt := 134) hx hb dX5_ringOf_48 (by decide) (fun c2 => ?_) (fun c2 => ?_)
    · have hf := itep c2 hf
      exact w_X5_ringOf_L134 X hT hk33 hf hG (lv_sub hl [0, 1, 2] rfl)
    · have hf := iten c2 hf
      refine lv_aload_n hx hb dX5_ringOf_51 rfl (lv_at hl 0 rfl) ?_
      refine gf_X5_20 X hG hT dX5_ringOf_52 ?_
      refine lv_aload_n hx hb dX5_ringOf_55 rfl (lv_at hl 0 rfl) ?_
      refine gf_X5_7 X hG hT dX5_ringOf_56 ?_
      refine lv_iconst (v := 0) hx hb dX5_ringOf_59 (by decide) ?_
      refine lv_iload_n hx hb dX5_ringOf_60 rfl (lv_at hl 3 rfl) ?_
      obtain ⟨x3, hr4, hf⟩ := bd_some hf
      refine mw_callSi (rest := [.ref (a (this + 1)), .ref (a (this + 4))]) X hG (c_X5_at l dC dI cy a X.2.2.1  M (0 : Int32) v3 hr4) (mw_cwS X 2 g_X5_34 hd_X5_at ⟨rfl, rfl⟩ ⟨Nat.le_of_ble_eq_true rfl, Nat.le_of_ble_eq_true rfl⟩) rfl hl.1 rfl (Nat.le_of_ble_eq_true rfl) dX5_ringOf_61 (fun H locs hG => ?_)
      refine lv_iconst (v := 0) hx hb dX5_ringOf_64 (by decide) ?_
      refine lv_iadd hx hb dX5_ringOf_65 ?_
      obtain ⟨hi5, hf⟩ := ck_some hf
      refine mw_iald X hG hT.2.1 hi5 dX5_ringOf_66 ?_
      obtain ⟨hi6, hf⟩ := ck_some hf
      refine mw_iald X hG hT.2.2.2.2.1 hi6 dX5_ringOf_67 ?_
      refine lv_aload_n hx hb dX5_ringOf_68 rfl (lv_at hl 0 rfl) ?_
      refine gf_X5_7 X hG hT dX5_ringOf_69 ?_
      refine lv_iconst (v := 0) hx hb dX5_ringOf_72 (by decide) ?_
      refine lv_iload_n hx hb dX5_ringOf_73 rfl (lv_at hl 3 rfl) ?_
      obtain ⟨x7, hr8, hf⟩ := bd_some hf
      refine mw_callSi (rest := [.ref (a (this + 1)), .int (rd M (this + 4) (rd M (this + 1) (x3 + (0 : Int32)).toNatClampNeg).toNatClampNeg)]) X hG (c_X5_at l dC dI cy a X.2.2.1  M (0 : Int32) v3 hr8) (mw_cwS X 2 g_X5_34 hd_X5_at ⟨rfl, rfl⟩ ⟨Nat.le_of_ble_eq_true rfl, Nat.le_of_ble_eq_true rfl⟩) rfl hl.1 rfl (Nat.le_of_ble_eq_true rfl) dX5_ringOf_74 (fun H locs hG => ?_)
      refine lv_iconst (v := 2) hx hb dX5_ringOf_77 (by decide) ?_
      refine lv_iadd hx hb dX5_ringOf_78 ?_
      obtain ⟨hi9, hf⟩ := ck_some hf
      refine mw_iald X hG hT.2.1 hi9 dX5_ringOf_79 ?_
      refine lv_iadd hx hb dX5_ringOf_80 ?_
      refine lv_topi (fun x10 ex10 => ?_)
      have hf := nm_of ex10 hf
      refine lv_istore (lv' := [(4, .int x10), (0, .ref (a this)), (1, .int v1), (2, .int v2), (3, .int v3)]) hx hb dX5_ringOf_81 hl (by decide) rfl (fun ls hl => ?_)
      refine lv_aload_n hx hb dX5_ringOf_83 rfl (lv_at hl 1 rfl) ?_
      refine gf_X5_7 X hG hT dX5_ringOf_84 ?_
      refine lv_iconst (v := 0) hx hb dX5_ringOf_87 (by decide) ?_
      refine lv_iload_n hx hb dX5_ringOf_88 rfl (lv_at hl 4 rfl) ?_
      obtain ⟨x11, hr12, hf⟩ := bd_some hf
      refine mw_callSi (rest := [.ref (a (this + 1))]) X hG (c_X5_at l dC dI cy a X.2.2.1  M (0 : Int32) v3 hr12) (mw_cwS X 2 g_X5_34 hd_X5_at ⟨rfl, rfl⟩ ⟨Nat.le_of_ble_eq_true rfl, Nat.le_of_ble_eq_true rfl⟩) rfl hl.1 rfl (Nat.le_of_ble_eq_true rfl) dX5_ringOf_89 (fun H locs hG => ?_)
      refine lv_iconst (v := 1) hx hb dX5_ringOf_92 (by decide) ?_
      refine lv_iadd hx hb dX5_ringOf_93 ?_
      obtain ⟨hi13, hf⟩ := ck_some hf
      refine mw_iald X hG hT.2.1 hi13 dX5_ringOf_94 ?_
      refine lv_topi (fun x14 ex14 => ?_)
      have hf := nm_of ex14 hf
      refine lv_istore (lv' := [(5, .int x14), (4, .int x10), (0, .ref (a this)), (1, .int v1), (2, .int v2), (3, .int v3)]) hx hb dX5_ringOf_95 hl (by decide) rfl (fun ls hl => ?_)
      refine lv_aload_n hx hb dX5_ringOf_97 rfl (lv_at hl 2 rfl) ?_
      refine gf_X5_20 X hG hT dX5_ringOf_98 ?_
      refine lv_iload hx hb dX5_ringOf_101 (lv_at hl 0 rfl) ?_
      refine lv_iload hx hb dX5_ringOf_103 (lv_at hl 1 rfl) ?_
      refine lv_aload_n hx hb dX5_ringOf_105 rfl (lv_at hl 2 rfl) ?_
      refine gf_X5_20 X hG hT dX5_ringOf_106 ?_
      refine lv_iload hx hb dX5_ringOf_109 (lv_at hl 0 rfl) ?_
      obtain ⟨hi15, hf⟩ := ck_some hf
      refine mw_iald X hG hT.2.2.2.2.1 hi15 dX5_ringOf_111 ?_
      refine lv_icmp_ge (tgt := 120) hx hb dX5_ringOf_112 (by decide) (fun c16 => ?_) (fun c16 => ?_)
      · have hf := itep c16 hf
        refine lv_aload_n hx hb dX5_ringOf_120 rfl (lv_at hl 2 rfl) ?_
        refine gf_X5_20 X hG hT dX5_ringOf_121 ?_
        refine lv_iload hx hb dX5_ringOf_124 (lv_at hl 0 rfl) ?_
        obtain ⟨hi17, hf⟩ := ck_some hf
        refine mw_iald X hG hT.2.2.2.2.1 hi17 dX5_ringOf_126 ?_
        exact w_X5_ringOf_L127 X hT hk33 ih hf hG (lv_sub hl [2, 3, 4, 5] rfl)
      · have hf := iten c16 hf
        refine lv_iload hx hb dX5_ringOf_115 (lv_at hl 1 rfl) ?_
        refine lv_goto (tgt := 127) hx hb dX5_ringOf_117 (by decide) ?_
        exact w_X5_ringOf_L127 X hT hk33 ih hf hG (lv_sub hl [2, 3, 4, 5] rfl)
set_option maxHeartbeats 4000000 in
set_option maxRecDepth 100000 in
theorem w_X5_ringOf_L231 {l : Launch} {dC : Nat → ClassId} {dI : Nat → Nat → Nat} {cy : Nat → ClassId} {a : Nat → Nat} {p : Program} {e : Env} {s : State} {m : MethodId} {args : Array Value} {below : List Frame} {meth : Method} {c : Code} (X : XU dC dI cy a p s m c args meth cX5_ringOf 6 RX5 (some .int)) {M : Mem} {this : Nat} (hT : K5 this) {v1 : Int32} {v2 : Int32} {v3 : Int32} {o : (Int32 × Mem)} {k144 : Int32 → Int32 → Option (Int32 × Mem)} (hk144 : ∀ (v2 : Int32) (v3 : Int32) (H : Heap) (locs : List Loc) (ls : Array Slot), k144 v2 v3 = some o → GU dC dI cy a s.heap M H locs → lv_has ls 6 [(0, .ref (a this)), (1, .int v1), (2, .int v2), (3, .int v3)] → W p l e ({ frames := 1, cells := 0, slots := 0, locals := 21 } : Room) s m args below meth c H locs 0 0 (MQ below (QUi dC dI cy a o.1 o.2) args s 0 0 (AU a)) (F0 m 144 ls [])) {H : Heap} {locs : List Loc} {ls : Array Slot} (hf : f_X5_ringOf_L231 k144 M this v1 v2 v3 = some o) (hG : GU dC dI cy a s.heap M H locs) (hl : lv_has ls 6 [(0, .ref (a this)), (1, .int v1), (2, .int v2), (3, .int v3)]) : W p l e ({ frames := 1, cells := 0, slots := 0, locals := 21 } : Room) s m args below meth c H locs 0 0 (MQ below (QUi dC dI cy a o.1 o.2) args s 0 0 (AU a)) (F0 m 231 ls []) := by
  have hx := X.1.1
  have hb := X.1.2.1
  have hown := X.1.2.2.2.1
  have hts := X.1.2.2.2.2
  rw [f_X5_ringOf_L231] at hf
  obtain ⟨x1, ex1⟩ : ∃ y : Int32, y = v3 + (1 : Int32) := ⟨_, rfl⟩
  have hf := nm_of ex1 hf
  refine lv_iinc (v := x1) (lv' := [(3, .int x1), (0, .ref (a this)), (1, .int v1), (2, .int v2)]) hx hb dX5_ringOf_231 hl (k := 3) rfl (by rw [ex1]; rfl) (by decide) rfl (fun ls hl => ?_)
  refine lv_goto (tgt := 144) hx hb dX5_ringOf_234 (by decide) ?_
  exact hk144 _ _ _ _ _ hf hG (lv_sub hl [1, 2, 3, 0] rfl)
set_option maxHeartbeats 4000000 in
set_option maxRecDepth 100000 in
theorem w_X5_ringOf_L230 {l : Launch} {dC : Nat → ClassId} {dI : Nat → Nat → Nat} {cy : Nat → ClassId} {a : Nat → Nat} {p : Program} {e : Env} {s : State} {m : MethodId} {args : Array Value} {below : List Frame} {meth : Method} {c : Code} (X : XU dC dI cy a p s m c args meth cX5_ringOf 6 RX5 (some .int)) {M : Mem} {this : Nat} (hT : K5 this) {v1 : Int32} {v3 : Int32} {s0 : Int32} {o : (Int32 × Mem)} {k144 : Int32 → Int32 → Option (Int32 × Mem)} (hk144 : ∀ (v2 : Int32) (v3 : Int32) (H : Heap) (locs : List Loc) (ls : Array Slot), k144 v2 v3 = some o → GU dC dI cy a s.heap M H locs → lv_has ls 6 [(0, .ref (a this)), (1, .int v1), (2, .int v2), (3, .int v3)] → W p l e ({ frames := 1, cells := 0, slots := 0, locals := 21 } : Room) s m args below meth c H locs 0 0 (MQ below (QUi dC dI cy a o.1 o.2) args s 0 0 (AU a)) (F0 m 144 ls [])) {H : Heap} {locs : List Loc} {ls : Array Slot} (hf : f_X5_ringOf_L230 k144 M this v1 v3 s0 = some o) (hG : GU dC dI cy a s.heap M H locs) (hl : lv_has ls 6 [(0, .ref (a this)), (1, .int v1), (3, .int v3)]) : W p l e ({ frames := 1, cells := 0, slots := 0, locals := 21 } : Room) s m args below meth c H locs 0 0 (MQ below (QUi dC dI cy a o.1 o.2) args s 0 0 (AU a)) (F0 m 230 ls [.int s0]) := by
  have hx := X.1.1
  have hb := X.1.2.1
  have hown := X.1.2.2.2.1
  have hts := X.1.2.2.2.2
  rw [f_X5_ringOf_L230] at hf
  refine lv_istore_n (lv' := [(2, .int s0), (0, .ref (a this)), (1, .int v1), (3, .int v3)]) hx hb dX5_ringOf_230 rfl hl (by decide) rfl (fun ls hl => ?_)
  exact w_X5_ringOf_L231 X hT hk144 hf hG (lv_sub hl [1, 2, 0, 3] rfl)
set_option maxHeartbeats 4000000 in
set_option maxRecDepth 100000 in
theorem w_X5_ringOf_L224 {l : Launch} {dC : Nat → ClassId} {dI : Nat → Nat → Nat} {cy : Nat → ClassId} {a : Nat → Nat} {p : Program} {e : Env} {s : State} {m : MethodId} {args : Array Value} {below : List Frame} {meth : Method} {c : Code} (X : XU dC dI cy a p s m c args meth cX5_ringOf 6 RX5 (some .int)) {M : Mem} {this : Nat} (hT : K5 this) {v1 : Int32} {v3 : Int32} {v5 : Int32} {o : (Int32 × Mem)} {k144 : Int32 → Int32 → Option (Int32 × Mem)} (hk144 : ∀ (v2 : Int32) (v3 : Int32) (H : Heap) (locs : List Loc) (ls : Array Slot), k144 v2 v3 = some o → GU dC dI cy a s.heap M H locs → lv_has ls 6 [(0, .ref (a this)), (1, .int v1), (2, .int v2), (3, .int v3)] → W p l e ({ frames := 1, cells := 0, slots := 0, locals := 21 } : Room) s m args below meth c H locs 0 0 (MQ below (QUi dC dI cy a o.1 o.2) args s 0 0 (AU a)) (F0 m 144 ls [])) {H : Heap} {locs : List Loc} {ls : Array Slot} (hf : f_X5_ringOf_L224 k144 M this v1 v3 v5 = some o) (hG : GU dC dI cy a s.heap M H locs) (hl : lv_has ls 6 [(0, .ref (a this)), (1, .int v1), (3, .int v3), (5, .int v5)]) : W p l e ({ frames := 1, cells := 0, slots := 0, locals := 21 } : Room) s m args below meth c H locs 0 0 (MQ below (QUi dC dI cy a o.1 o.2) args s 0 0 (AU a)) (F0 m 224 ls []) := by
  have hx := X.1.1
  have hb := X.1.2.1
  have hown := X.1.2.2.2.1
  have hts := X.1.2.2.2.2
  rw [f_X5_ringOf_L224] at hf
  refine lv_iload hx hb dX5_ringOf_224 (lv_at hl 3 rfl) ?_
  refine lv_goto (tgt := 230) hx hb dX5_ringOf_226 (by decide) ?_
  exact w_X5_ringOf_L230 X hT hk144 hf hG (lv_sub hl [0, 1, 2] rfl)
set_option maxHeartbeats 4000000 in
set_option maxRecDepth 100000 in
theorem w_X5_ringOf_L144 {l : Launch} {dC : Nat → ClassId} {dI : Nat → Nat → Nat} {cy : Nat → ClassId} {a : Nat → Nat} {p : Program} {e : Env} {s : State} {m : MethodId} {args : Array Value} {below : List Frame} {meth : Method} {c : Code} (X : XU dC dI cy a p s m c args meth cX5_ringOf 6 RX5 (some .int)) {M : Mem} {this : Nat} (hT : K5 this) {v1 : Int32} {o : (Int32 × Mem)} : ∀ (n : Nat) (v2 : Int32) (v3 : Int32) (H : Heap) (locs : List Loc) (ls : Array Slot), f_X5_ringOf_L144 M this v1 n v2 v3 = some o → GU dC dI cy a s.heap M H locs → lv_has ls 6 [(0, .ref (a this)), (1, .int v1), (2, .int v2), (3, .int v3)] → W p l e ({ frames := 1, cells := 0, slots := 0, locals := 21 } : Room) s m args below meth c H locs 0 0 (MQ below (QUi dC dI cy a o.1 o.2) args s 0 0 (AU a)) (F0 m 144 ls []) := by
  have hx := X.1.1
  have hb := X.1.2.1
  have hown := X.1.2.2.2.1
  have hts := X.1.2.2.2.2
  intro n
  induction n with
  | zero => intro v2 v3 H locs ls hf; cases hf
  | succ n ih =>
    intro v2 v3 H locs ls hf hG hl
    rw [f_X5_ringOf_L144] at hf
    refine lv_iload_n hx hb dX5_ringOf_144 rfl (lv_at hl 3 rfl) ?_
    refine lv_aload_n hx hb dX5_ringOf_145 rfl (lv_at hl 0 rfl) ?_
    refine gf_X5_7 X hG hT dX5_ringOf_146 ?_
    refine lv_iconst (v := 1) hx hb dX5_ringOf_149 (by decide) ?_
    obtain ⟨hi1, hf⟩ := ck_some hf
    refine mw_iald X hG hT.2.1 hi1 dX5_ringOf_150 ?_
    refine lv_icmp_ge (tgt := 237) hx hb dX5_ringOf_151 (by decide) (fun c2 => ?_) (fun c2 => ?_)
    · have hf := itep c2 hf
      refine lv_iload_n hx hb dX5_ringOf_237 rfl (lv_at hl 2 rfl) ?_
      obtain rfl := Option.some.inj hf
      exact mw_iret X hG dX5_ringOf_238
    · have hf := iten c2 hf
      refine lv_aload_n hx hb dX5_ringOf_154 rfl (lv_at hl 0 rfl) ?_
      refine gf_X5_20 X hG hT dX5_ringOf_155 ?_
      refine lv_aload_n hx hb dX5_ringOf_158 rfl (lv_at hl 0 rfl) ?_
      refine gf_X5_7 X hG hT dX5_ringOf_159 ?_
      refine lv_iconst (v := 0) hx hb dX5_ringOf_162 (by decide) ?_
      refine lv_iload_n hx hb dX5_ringOf_163 rfl (lv_at hl 3 rfl) ?_
      obtain ⟨x3, hr4, hf⟩ := bd_some hf
      refine mw_callSi (rest := [.ref (a (this + 1)), .ref (a (this + 4))]) X hG (c_X5_at l dC dI cy a X.2.2.1  M (0 : Int32) v3 hr4) (mw_cwS X 2 g_X5_34 hd_X5_at ⟨rfl, rfl⟩ ⟨Nat.le_of_ble_eq_true rfl, Nat.le_of_ble_eq_true rfl⟩) rfl hl.1 rfl (Nat.le_of_ble_eq_true rfl) dX5_ringOf_164 (fun H locs hG => ?_)
      refine lv_iconst (v := 0) hx hb dX5_ringOf_167 (by decide) ?_
      refine lv_iadd hx hb dX5_ringOf_168 ?_
      obtain ⟨hi5, hf⟩ := ck_some hf
      refine mw_iald X hG hT.2.1 hi5 dX5_ringOf_169 ?_
      obtain ⟨hi6, hf⟩ := ck_some hf
      refine mw_iald X hG hT.2.2.2.2.1 hi6 dX5_ringOf_170 ?_
      refine lv_topi (fun x7 ex7 => ?_)
      have hf := nm_of ex7 hf
      refine lv_istore (lv' := [(4, .int x7), (0, .ref (a this)), (1, .int v1), (2, .int v2), (3, .int v3)]) hx hb dX5_ringOf_171 hl (by decide) rfl (fun ls hl => ?_)
      refine lv_aload_n hx hb dX5_ringOf_173 rfl (lv_at hl 1 rfl) ?_
      refine gf_X5_7 X hG hT dX5_ringOf_174 ?_
      refine lv_iconst (v := 0) hx hb dX5_ringOf_177 (by decide) ?_
      refine lv_iload_n hx hb dX5_ringOf_178 rfl (lv_at hl 4 rfl) ?_
      obtain ⟨x8, hr9, hf⟩ := bd_some hf
      refine mw_callSi (rest := [.ref (a (this + 1))]) X hG (c_X5_at l dC dI cy a X.2.2.1  M (0 : Int32) v3 hr9) (mw_cwS X 2 g_X5_34 hd_X5_at ⟨rfl, rfl⟩ ⟨Nat.le_of_ble_eq_true rfl, Nat.le_of_ble_eq_true rfl⟩) rfl hl.1 rfl (Nat.le_of_ble_eq_true rfl) dX5_ringOf_179 (fun H locs hG => ?_)
      refine lv_iconst (v := 1) hx hb dX5_ringOf_182 (by decide) ?_
      refine lv_iadd hx hb dX5_ringOf_183 ?_
      obtain ⟨hi10, hf⟩ := ck_some hf
      refine mw_iald X hG hT.2.1 hi10 dX5_ringOf_184 ?_
      refine lv_iload_n hx hb dX5_ringOf_185 rfl (lv_at hl 2 rfl) ?_
      refine lv_icmp_ne (tgt := 231) hx hb dX5_ringOf_186 (by decide) (fun c11 => ?_) (fun c11 => ?_)
      · have hf := iten c11 hf
        exact w_X5_ringOf_L231 X hT ih hf hG (lv_sub hl [1, 2, 3, 4] rfl)
      · have hf := itep c11 hf
        refine lv_iload hx hb dX5_ringOf_189 (lv_at hl 0 rfl) ?_
        refine lv_ldc (v := 99999999) hx hb hown (hts _ wd_ct_X5_91) dX5_ringOf_191 ?_
        refine lv_icmp_ge (tgt := 231) hx hb dX5_ringOf_193 (by decide) (fun c12 => ?_) (fun c12 => ?_)
        · have hf := itep c12 hf
          exact w_X5_ringOf_L231 X hT ih hf hG (lv_sub hl [1, 2, 3, 4] rfl)
        · have hf := iten c12 hf
          refine lv_iload hx hb dX5_ringOf_196 (lv_at hl 0 rfl) ?_
          refine lv_aload_n hx hb dX5_ringOf_198 rfl (lv_at hl 1 rfl) ?_
          refine gf_X5_7 X hG hT dX5_ringOf_199 ?_
          refine lv_iconst (v := 0) hx hb dX5_ringOf_202 (by decide) ?_
          refine lv_iload_n hx hb dX5_ringOf_203 rfl (lv_at hl 4 rfl) ?_
          obtain ⟨x13, hr14, hf⟩ := bd_some hf
          refine mw_callSi (rest := [.ref (a (this + 1)), .int x7]) X hG (c_X5_at l dC dI cy a X.2.2.1  M (0 : Int32) v3 hr14) (mw_cwS X 2 g_X5_34 hd_X5_at ⟨rfl, rfl⟩ ⟨Nat.le_of_ble_eq_true rfl, Nat.le_of_ble_eq_true rfl⟩) rfl hl.1 rfl (Nat.le_of_ble_eq_true rfl) dX5_ringOf_204 (fun H locs hG => ?_)
          refine lv_iconst (v := 2) hx hb dX5_ringOf_207 (by decide) ?_
          refine lv_iadd hx hb dX5_ringOf_208 ?_
          obtain ⟨hi15, hf⟩ := ck_some hf
          refine mw_iald X hG hT.2.1 hi15 dX5_ringOf_209 ?_
          refine lv_iadd hx hb dX5_ringOf_210 ?_
          refine lv_topi (fun x16 ex16 => ?_)
          have hf := nm_of ex16 hf
          refine lv_istore (lv' := [(5, .int x16), (4, .int x7), (0, .ref (a this)), (1, .int v1), (2, .int v2), (3, .int v3)]) hx hb dX5_ringOf_211 hl (by decide) rfl (fun ls hl => ?_)
          refine lv_iload_n hx hb dX5_ringOf_213 rfl (lv_at hl 4 rfl) ?_
          refine lv_iconst (v := -1) hx hb dX5_ringOf_214 (by decide) ?_
          refine lv_icmp_eq (tgt := 224) hx hb dX5_ringOf_215 (by decide) (fun c17 => ?_) (fun c17 => ?_)
          · have hf := itep c17 hf
            exact w_X5_ringOf_L224 X hT ih hf hG (lv_sub hl [2, 3, 5, 0] rfl)
          · have hf := iten c17 hf
            refine lv_iload hx hb dX5_ringOf_218 (lv_at hl 0 rfl) ?_
            refine lv_iload_n hx hb dX5_ringOf_220 rfl (lv_at hl 4 rfl) ?_
            refine lv_icmp_ge (tgt := 229) hx hb dX5_ringOf_221 (by decide) (fun c18 => ?_) (fun c18 => ?_)
            · have hf := itep c18 hf
              refine lv_iload_n hx hb dX5_ringOf_229 rfl (lv_at hl 4 rfl) ?_
              exact w_X5_ringOf_L230 X hT ih hf hG (lv_sub hl [2, 3, 5] rfl)
            · have hf := iten c18 hf
              exact w_X5_ringOf_L224 X hT ih hf hG (lv_sub hl [2, 3, 5, 0] rfl)
set_option maxHeartbeats 4000000 in
set_option maxRecDepth 100000 in
theorem w_X5_ringOf_L140 {l : Launch} {dC : Nat → ClassId} {dI : Nat → Nat → Nat} {cy : Nat → ClassId} {a : Nat → Nat} {p : Program} {e : Env} {s : State} {m : MethodId} {args : Array Value} {below : List Frame} {meth : Method} {c : Code} (X : XU dC dI cy a p s m c args meth cX5_ringOf 6 RX5 (some .int)) {M : Mem} {this : Nat} (hT : K5 this) {v1 : Int32} {o : (Int32 × Mem)} {H : Heap} {locs : List Loc} {ls : Array Slot} (hf : f_X5_ringOf_L140 M this v1 = some o) (hG : GU dC dI cy a s.heap M H locs) (hl : lv_has ls 6 [(0, .ref (a this)), (1, .int v1)]) : W p l e ({ frames := 1, cells := 0, slots := 0, locals := 21 } : Room) s m args below meth c H locs 0 0 (MQ below (QUi dC dI cy a o.1 o.2) args s 0 0 (AU a)) (F0 m 140 ls []) := by
  have hx := X.1.1
  have hb := X.1.2.1
  have hown := X.1.2.2.2.1
  have hts := X.1.2.2.2.2
  rw [f_X5_ringOf_L140] at hf
  refine lv_iconst (v := -1) hx hb dX5_ringOf_140 (by decide) ?_
  refine lv_istore_n (lv' := [(2, .int (-1 : Int32)), (0, .ref (a this)), (1, .int v1)]) hx hb dX5_ringOf_141 rfl hl (by decide) rfl (fun ls hl => ?_)
  refine lv_iconst (v := 0) hx hb dX5_ringOf_142 (by decide) ?_
  refine lv_istore_n (lv' := [(3, .int (0 : Int32)), (2, .int (-1 : Int32)), (0, .ref (a this)), (1, .int v1)]) hx hb dX5_ringOf_143 rfl hl (by decide) rfl (fun ls hl => ?_)
  exact w_X5_ringOf_L144 X hT 1000 _ _ _ _ _ hf hG (lv_sub hl [2, 3, 1, 0] rfl)
set_option maxHeartbeats 4000000 in
set_option maxRecDepth 100000 in
theorem w_X5_ringOf_L33 {l : Launch} {dC : Nat → ClassId} {dI : Nat → Nat → Nat} {cy : Nat → ClassId} {a : Nat → Nat} {p : Program} {e : Env} {s : State} {m : MethodId} {args : Array Value} {below : List Frame} {meth : Method} {c : Code} (X : XU dC dI cy a p s m c args meth cX5_ringOf 6 RX5 (some .int)) {this : Nat} (hT : K5 this) {v1 : Int32} {o : (Int32 × Mem)} : ∀ (n : Nat) (M : Mem) (v2 : Int32) (H : Heap) (locs : List Loc) (ls : Array Slot), f_X5_ringOf_L33 this v1 n M v2 = some o → GU dC dI cy a s.heap M H locs → lv_has ls 6 [(0, .ref (a this)), (1, .int v1), (2, .int v2)] → W p l e ({ frames := 1, cells := 0, slots := 0, locals := 21 } : Room) s m args below meth c H locs 0 0 (MQ below (QUi dC dI cy a o.1 o.2) args s 0 0 (AU a)) (F0 m 33 ls []) := by
  have hx := X.1.1
  have hb := X.1.2.1
  have hown := X.1.2.2.2.1
  have hts := X.1.2.2.2.2
  intro n
  induction n with
  | zero => intro M v2 H locs ls hf; cases hf
  | succ n ih =>
    intro M v2 H locs ls hf hG hl
    rw [f_X5_ringOf_L33] at hf
    refine lv_iload_n hx hb dX5_ringOf_33 rfl (lv_at hl 2 rfl) ?_
    refine lv_bipush (v := 6) hx hb dX5_ringOf_34 (by decide) ?_
    refine lv_icmp_ge (tgt := 140) hx hb dX5_ringOf_36 (by decide) (fun c1 => ?_) (fun c1 => ?_)
    · have hf := itep c1 hf
      exact w_X5_ringOf_L140 X hT hf hG (lv_sub hl [0, 1] rfl)
    · have hf := iten c1 hf
      refine lv_iconst (v := 0) hx hb dX5_ringOf_39 (by decide) ?_
      refine lv_istore_n (lv' := [(3, .int (0 : Int32)), (0, .ref (a this)), (1, .int v1), (2, .int v2)]) hx hb dX5_ringOf_40 rfl hl (by decide) rfl (fun ls hl => ?_)
      exact w_X5_ringOf_L41 X hT ih 1000 _ _ _ _ _ hf hG (lv_sub hl [1, 2, 3, 0] rfl)
set_option maxHeartbeats 4000000 in
set_option maxRecDepth 100000 in
theorem w_X5_ringOf_L31 {l : Launch} {dC : Nat → ClassId} {dI : Nat → Nat → Nat} {cy : Nat → ClassId} {a : Nat → Nat} {p : Program} {e : Env} {s : State} {m : MethodId} {args : Array Value} {below : List Frame} {meth : Method} {c : Code} (X : XU dC dI cy a p s m c args meth cX5_ringOf 6 RX5 (some .int)) {M : Mem} {this : Nat} (hT : K5 this) {v1 : Int32} {o : (Int32 × Mem)} {H : Heap} {locs : List Loc} {ls : Array Slot} (hf : f_X5_ringOf_L31 M this v1 = some o) (hG : GU dC dI cy a s.heap M H locs) (hl : lv_has ls 6 [(0, .ref (a this)), (1, .int v1)]) : W p l e ({ frames := 1, cells := 0, slots := 0, locals := 21 } : Room) s m args below meth c H locs 0 0 (MQ below (QUi dC dI cy a o.1 o.2) args s 0 0 (AU a)) (F0 m 31 ls []) := by
  have hx := X.1.1
  have hb := X.1.2.1
  have hown := X.1.2.2.2.1
  have hts := X.1.2.2.2.2
  rw [f_X5_ringOf_L31] at hf
  refine lv_iconst (v := 0) hx hb dX5_ringOf_31 (by decide) ?_
  refine lv_istore_n (lv' := [(2, .int (0 : Int32)), (0, .ref (a this)), (1, .int v1)]) hx hb dX5_ringOf_32 rfl hl (by decide) rfl (fun ls hl => ?_)
  exact w_X5_ringOf_L33 X hT 1000 _ _ _ _ _ hf hG (lv_sub hl [1, 2, 0] rfl)
set_option maxHeartbeats 4000000 in
set_option maxRecDepth 100000 in
theorem w_X5_ringOf_L2 {l : Launch} {dC : Nat → ClassId} {dI : Nat → Nat → Nat} {cy : Nat → ClassId} {a : Nat → Nat} {p : Program} {e : Env} {s : State} {m : MethodId} {args : Array Value} {below : List Frame} {meth : Method} {c : Code} (X : XU dC dI cy a p s m c args meth cX5_ringOf 6 RX5 (some .int)) {this : Nat} (hT : K5 this) {v1 : Int32} {o : (Int32 × Mem)} : ∀ (n : Nat) (M : Mem) (v2 : Int32) (H : Heap) (locs : List Loc) (ls : Array Slot), f_X5_ringOf_L2 this v1 n M v2 = some o → GU dC dI cy a s.heap M H locs → lv_has ls 6 [(0, .ref (a this)), (1, .int v1), (2, .int v2)] → W p l e ({ frames := 1, cells := 0, slots := 0, locals := 21 } : Room) s m args below meth c H locs 0 0 (MQ below (QUi dC dI cy a o.1 o.2) args s 0 0 (AU a)) (F0 m 2 ls []) := by
  have hx := X.1.1
  have hb := X.1.2.1
  have hown := X.1.2.2.2.1
  have hts := X.1.2.2.2.2
  intro n
  induction n with
  | zero => intro M v2 H locs ls hf; cases hf
  | succ n ih =>
    intro M v2 H locs ls hf hG hl
    rw [f_X5_ringOf_L2] at hf
    refine lv_iload_n hx hb dX5_ringOf_2 rfl (lv_at hl 2 rfl) ?_
    refine lv_bipush (v := 6) hx hb dX5_ringOf_3 (by decide) ?_
    refine lv_icmp_ge (tgt := 31) hx hb dX5_ringOf_5 (by decide) (fun c1 => ?_) (fun c1 => ?_)
    · have hf := itep c1 hf
      exact w_X5_ringOf_L31 X hT hf hG (lv_sub hl [0, 1] rfl)
    · have hf := iten c1 hf
      refine lv_aload_n hx hb dX5_ringOf_8 rfl (lv_at hl 0 rfl) ?_
      refine gf_X5_20 X hG hT dX5_ringOf_9 ?_
      refine lv_iload_n hx hb dX5_ringOf_12 rfl (lv_at hl 2 rfl) ?_
      refine lv_iload_n hx hb dX5_ringOf_13 rfl (lv_at hl 2 rfl) ?_
      refine lv_iload_n hx hb dX5_ringOf_14 rfl (lv_at hl 1 rfl) ?_
      refine lv_icmp_ne (tgt := 22) hx hb dX5_ringOf_15 (by decide) (fun c2 => ?_) (fun c2 => ?_)
      · have hf := iten c2 hf
        refine lv_ldc (v := 99999999) hx hb hown (hts _ wd_ct_X5_91) dX5_ringOf_22 ?_
        exact w_X5_ringOf_L24 X hT ih hf hG (lv_sub hl [0, 1, 2] rfl)
      · have hf := itep c2 hf
        refine lv_iconst (v := 0) hx hb dX5_ringOf_18 (by decide) ?_
        refine lv_goto (tgt := 24) hx hb dX5_ringOf_19 (by decide) ?_
        exact w_X5_ringOf_L24 X hT ih hf hG (lv_sub hl [0, 1, 2] rfl)
set_option maxHeartbeats 4000000 in
set_option maxRecDepth 100000 in
theorem c_X5_ringOf (l : Launch) (dC : Nat → ClassId) (dI : Nat → Nat → Nat) (cy : Nat → ClassId) (a : Nat → Nat) (ha : injU a) (this : Nat) (hT : K5 this) (M : Mem) (v1 : Int32) {o : (Int32 × Mem)} (hf : f_X5_ringOf M this v1 = some o) : Met l yX5_ringOf (wsU yX5_ringOf cX5_ringOf 6 (some .int)) ({ frames := 1, cells := 0, slots := 0, locals := 21 } : Room) (PU dC dI cy a [.ref (a this), .int v1] M) (QUi dC dI cy a o.1 o.2) 0 0 (AU a) := by
  refine mw_met (by decide) ha (Nat.le_of_ble_eq_true rfl) ?_
  intro p e s m below meth c ls X hG hl
  have hl : lv_has ls 6 [(0, .ref (a this)), (1, .int v1)] := hl
  have X : XU dC dI cy a p s m c [.ref (a this), .int v1].toArray meth cX5_ringOf 6 RX5 (some .int) := X
  have hx := X.1.1
  have hb := X.1.2.1
  have hown := X.1.2.2.2.1
  have hts := X.1.2.2.2.2
  rw [f_X5_ringOf] at hf
  refine lv_iconst (v := 0) hx hb dX5_ringOf_0 (by decide) ?_
  refine lv_istore_n (lv' := [(2, .int (0 : Int32)), (0, .ref (a this)), (1, .int v1)]) hx hb dX5_ringOf_1 rfl hl (by decide) rfl (fun ls hl => ?_)
  exact w_X5_ringOf_L2 X hT 1000 _ _ _ _ _ hf hG (lv_sub hl [1, 2, 0] rfl)
/-! X5_isRing -/
set_option maxHeartbeats 4000000 in
set_option maxRecDepth 100000 in
theorem w_X5_isRing_L31 {l : Launch} {dC : Nat → ClassId} {dI : Nat → Nat → Nat} {cy : Nat → ClassId} {a : Nat → Nat} {p : Program} {e : Env} {s : State} {m : MethodId} {args : Array Value} {below : List Frame} {meth : Method} {c : Code} (X : XU dC dI cy a p s m c args meth cX5_isRing 3 RX5 (some .boolean)) {M : Mem} {this : Nat} (hT : K5 this) {v2 : Int32} {s0 : Int32} {o : (Int32 × Mem)} {k4 : Mem → Int32 → Int32 → Option (Int32 × Mem)} (hk4 : ∀ (M : Mem) (v1 : Int32) (v2 : Int32) (H : Heap) (locs : List Loc) (ls : Array Slot), k4 M v1 v2 = some o → GU dC dI cy a s.heap M H locs → lv_has ls 3 [(0, .ref (a this)), (1, .int v1), (2, .int v2)] → W p l e ({ frames := 2, cells := 0, slots := 0, locals := 46 } : Room) s m args below meth c H locs 0 0 (MQ below (QUi dC dI cy a o.1 o.2) args s 0 0 (AU a)) (F0 m 4 ls [])) {H : Heap} {locs : List Loc} {ls : Array Slot} (hf : f_X5_isRing_L31 k4 M this v2 s0 = some o) (hG : GU dC dI cy a s.heap M H locs) (hl : lv_has ls 3 [(0, .ref (a this)), (2, .int v2)]) : W p l e ({ frames := 2, cells := 0, slots := 0, locals := 46 } : Room) s m args below meth c H locs 0 0 (MQ below (QUi dC dI cy a o.1 o.2) args s 0 0 (AU a)) (F0 m 31 ls [.int s0]) := by
  have hx := X.1.1
  have hb := X.1.2.1
  have hown := X.1.2.2.2.1
  have hts := X.1.2.2.2.2
  rw [f_X5_isRing_L31] at hf
  refine lv_istore_n (lv' := [(1, .int s0), (0, .ref (a this)), (2, .int v2)]) hx hb dX5_isRing_31 rfl hl (by decide) rfl (fun ls hl => ?_)
  obtain ⟨x1, ex1⟩ : ∃ y : Int32, y = v2 + (1 : Int32) := ⟨_, rfl⟩
  have hf := nm_of ex1 hf
  refine lv_iinc (v := x1) (lv' := [(2, .int x1), (1, .int s0), (0, .ref (a this))]) hx hb dX5_isRing_32 hl (k := 2) rfl (by rw [ex1]; rfl) (by decide) rfl (fun ls hl => ?_)
  refine lv_goto (tgt := 4) hx hb dX5_isRing_35 (by decide) ?_
  exact hk4 _ _ _ _ _ _ hf hG (lv_sub hl [2, 1, 0] rfl)
set_option maxHeartbeats 4000000 in
set_option maxRecDepth 100000 in
theorem w_X5_isRing_L26 {l : Launch} {dC : Nat → ClassId} {dI : Nat → Nat → Nat} {cy : Nat → ClassId} {a : Nat → Nat} {p : Program} {e : Env} {s : State} {m : MethodId} {args : Array Value} {below : List Frame} {meth : Method} {c : Code} (X : XU dC dI cy a p s m c args meth cX5_isRing 3 RX5 (some .boolean)) {M : Mem} {this : Nat} (hT : K5 this) {v2 : Int32} {o : (Int32 × Mem)} {k4 : Mem → Int32 → Int32 → Option (Int32 × Mem)} (hk4 : ∀ (M : Mem) (v1 : Int32) (v2 : Int32) (H : Heap) (locs : List Loc) (ls : Array Slot), k4 M v1 v2 = some o → GU dC dI cy a s.heap M H locs → lv_has ls 3 [(0, .ref (a this)), (1, .int v1), (2, .int v2)] → W p l e ({ frames := 2, cells := 0, slots := 0, locals := 46 } : Room) s m args below meth c H locs 0 0 (MQ below (QUi dC dI cy a o.1 o.2) args s 0 0 (AU a)) (F0 m 4 ls [])) {H : Heap} {locs : List Loc} {ls : Array Slot} (hf : f_X5_isRing_L26 k4 M this v2 = some o) (hG : GU dC dI cy a s.heap M H locs) (hl : lv_has ls 3 [(0, .ref (a this)), (2, .int v2)]) : W p l e ({ frames := 2, cells := 0, slots := 0, locals := 46 } : Room) s m args below meth c H locs 0 0 (MQ below (QUi dC dI cy a o.1 o.2) args s 0 0 (AU a)) (F0 m 26 ls []) := by
  have hx := X.1.1
  have hb := X.1.2.1
  have hown := X.1.2.2.2.1
  have hts := X.1.2.2.2.2
  rw [f_X5_isRing_L26] at hf
  refine lv_iconst (v := 1) hx hb dX5_isRing_26 (by decide) ?_
  refine lv_goto (tgt := 31) hx hb dX5_isRing_27 (by decide) ?_
  exact w_X5_isRing_L31 X hT hk4 hf hG (lv_sub hl [0, 1] rfl)
set_option maxHeartbeats 4000000 in
set_option maxRecDepth 100000 in
theorem w_X5_isRing_L4 {l : Launch} {dC : Nat → ClassId} {dI : Nat → Nat → Nat} {cy : Nat → ClassId} {a : Nat → Nat} {p : Program} {e : Env} {s : State} {m : MethodId} {args : Array Value} {below : List Frame} {meth : Method} {c : Code} (X : XU dC dI cy a p s m c args meth cX5_isRing 3 RX5 (some .boolean)) {this : Nat} (hT : K5 this) {o : (Int32 × Mem)} : ∀ (n : Nat) (M : Mem) (v1 : Int32) (v2 : Int32) (H : Heap) (locs : List Loc) (ls : Array Slot), f_X5_isRing_L4 this n M v1 v2 = some o → GU dC dI cy a s.heap M H locs → lv_has ls 3 [(0, .ref (a this)), (1, .int v1), (2, .int v2)] → W p l e ({ frames := 2, cells := 0, slots := 0, locals := 46 } : Room) s m args below meth c H locs 0 0 (MQ below (QUi dC dI cy a o.1 o.2) args s 0 0 (AU a)) (F0 m 4 ls []) := by
  have hx := X.1.1
  have hb := X.1.2.1
  have hown := X.1.2.2.2.1
  have hts := X.1.2.2.2.2
  intro n
  induction n with
  | zero => intro M v1 v2 H locs ls hf; cases hf
  | succ n ih =>
    intro M v1 v2 H locs ls hf hG hl
    rw [f_X5_isRing_L4] at hf
    refine lv_iload_n hx hb dX5_isRing_4 rfl (lv_at hl 2 rfl) ?_
    refine lv_aload_n hx hb dX5_isRing_5 rfl (lv_at hl 0 rfl) ?_
    refine gf_X5_7 X hG hT dX5_isRing_6 ?_
    refine lv_iconst (v := 0) hx hb dX5_isRing_9 (by decide) ?_
    obtain ⟨hi1, hf⟩ := ck_some hf
    refine mw_iald X hG hT.2.1 hi1 dX5_isRing_10 ?_
    refine lv_icmp_ge (tgt := 38) hx hb dX5_isRing_11 (by decide) (fun c2 => ?_) (fun c2 => ?_)
    · have hf := itep c2 hf
      refine lv_iload_n hx hb dX5_isRing_38 rfl (lv_at hl 1 rfl) ?_
      obtain ⟨hz3, hf⟩ := zk_some hf
      obtain rfl := Option.some.inj hf
      exact mw_zret X hG (zk_nar hz3) dX5_isRing_39
    · have hf := iten c2 hf
      refine lv_iload_n hx hb dX5_isRing_14 rfl (lv_at hl 1 rfl) ?_
      refine lv_if_ne (tgt := 26) hx hb dX5_isRing_15 (by decide) (fun c4 => ?_) (fun c4 => ?_)
      · have hf := iten c4 hf
        exact w_X5_isRing_L26 X hT ih hf hG (lv_sub hl [0, 2] rfl)
      · have hf := itep c4 hf
        refine lv_aload_n hx hb dX5_isRing_18 rfl (lv_at hl 0 rfl) ?_
        refine lv_iload_n hx hb dX5_isRing_19 rfl (lv_at hl 2 rfl) ?_
        obtain ⟨x6, M5, hr7, hf⟩ := bd2_some hf
        refine mw_callVi (rest := []) X hG hT.1 rfl (c_X5_ringOf l dC dI cy a X.2.2.1 this hT M v2 hr7) (mw_cwV X 1 g_X5_122 hd_X5_ringOf ⟨rfl, rfl⟩ ⟨Nat.le_of_ble_eq_true rfl, Nat.le_of_ble_eq_true rfl⟩) rfl hl.1 rfl (Nat.le_of_ble_eq_true rfl) dX5_isRing_20 (fun H locs hG => ?_)
        refine lv_if_ne (tgt := 30) hx hb dX5_isRing_23 (by decide) (fun c8 => ?_) (fun c8 => ?_)
        · have hf := iten c8 hf
          refine lv_iconst (v := 0) hx hb dX5_isRing_30 (by decide) ?_
          exact w_X5_isRing_L31 X hT ih hf hG (lv_sub hl [0, 2] rfl)
        · have hf := itep c8 hf
          exact w_X5_isRing_L26 X hT ih hf hG (lv_sub hl [0, 2] rfl)
set_option maxHeartbeats 4000000 in
set_option maxRecDepth 100000 in
theorem c_X5_isRing (l : Launch) (dC : Nat → ClassId) (dI : Nat → Nat → Nat) (cy : Nat → ClassId) (a : Nat → Nat) (ha : injU a) (this : Nat) (hT : K5 this) (M : Mem) {o : (Int32 × Mem)} (hf : f_X5_isRing M this = some o) : Met l yX5_isRing (wsU yX5_isRing cX5_isRing 3 (some .boolean)) ({ frames := 2, cells := 0, slots := 0, locals := 46 } : Room) (PU dC dI cy a [.ref (a this)] M) (QUi dC dI cy a o.1 o.2) 0 0 (AU a) := by
  refine mw_met (by decide) ha (Nat.le_of_ble_eq_true rfl) ?_
  intro p e s m below meth c ls X hG hl
  have hl : lv_has ls 3 [(0, .ref (a this))] := hl
  have X : XU dC dI cy a p s m c [.ref (a this)].toArray meth cX5_isRing 3 RX5 (some .boolean) := X
  have hx := X.1.1
  have hb := X.1.2.1
  have hown := X.1.2.2.2.1
  have hts := X.1.2.2.2.2
  rw [f_X5_isRing] at hf
  refine lv_iconst (v := 0) hx hb dX5_isRing_0 (by decide) ?_
  refine lv_istore_n (lv' := [(1, .int (0 : Int32)), (0, .ref (a this))]) hx hb dX5_isRing_1 rfl hl (by decide) rfl (fun ls hl => ?_)
  refine lv_iconst (v := 0) hx hb dX5_isRing_2 (by decide) ?_
  refine lv_istore_n (lv' := [(2, .int (0 : Int32)), (1, .int (0 : Int32)), (0, .ref (a this))]) hx hb dX5_isRing_3 rfl hl (by decide) rfl (fun ls hl => ?_)
  exact w_X5_isRing_L4 X hT 1000 _ _ _ _ _ _ hf hG (lv_sub hl [2, 1, 0] rfl)
