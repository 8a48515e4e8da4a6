/-! X4_isNoImage -/
set_option maxHeartbeats 4000000 in
set_option maxRecDepth 100000 in
theorem w_X4_isNoImage_L14 {l : Launch} {dC : Nat → ClassId} {dI : Nat → Nat → Nat} {cy : Nat → ClassId} {a : Nat → Nat} {p : Program} {e : Env} {s : State} {m : MethodId} {args : Array Value} {below : List Frame} {meth : Method} {c : Code} (X : XU dC dI cy a p s m c args meth cX4_isNoImage 1 RX4 (some .boolean)) {M : Mem} {s0 : Int32} {o : Int32} {H : Heap} {locs : List Loc} {ls : Array Slot} (hf : f_X4_isNoImage_L14 s0 = some o) (hG : GU dC dI cy a s.heap M H locs) (hl : lv_has ls 1 []) : W p l e ({ frames := 0, cells := 0, slots := 0, locals := 0 } : Room) s m args below meth c H locs 0 0 (MQ below (QUi dC dI cy a o M) args s 0 0 (AU a)) (F0 m 14 ls [.int s0]) := by
  have hx := X.1.1
  have hb := X.1.2.1
  have hown := X.1.2.2.2.1
  have hts := X.1.2.2.2.2
  rw [f_X4_isNoImage_L14] at hf
  obtain ⟨hz1, hf⟩ := zk_some hf
  obtain rfl := Option.some.inj hf
  exact mw_zret X hG (zk_nar hz1) dX4_isNoImage_14
set_option maxHeartbeats 4000000 in
set_option maxRecDepth 100000 in
theorem w_X4_isNoImage_L9 {l : Launch} {dC : Nat → ClassId} {dI : Nat → Nat → Nat} {cy : Nat → ClassId} {a : Nat → Nat} {p : Program} {e : Env} {s : State} {m : MethodId} {args : Array Value} {below : List Frame} {meth : Method} {c : Code} (X : XU dC dI cy a p s m c args meth cX4_isNoImage 1 RX4 (some .boolean)) {M : Mem} {o : Int32} {H : Heap} {locs : List Loc} {ls : Array Slot} (hf : f_X4_isNoImage_L9  = some o) (hG : GU dC dI cy a s.heap M H locs) (hl : lv_has ls 1 []) : W p l e ({ frames := 0, cells := 0, slots := 0, locals := 0 } : Room) s m args below meth c H locs 0 0 (MQ below (QUi dC dI cy a o M) args s 0 0 (AU a)) (F0 m 9 ls []) := by
  have hx := X.1.1
  have hb := X.1.2.1
  have hown := X.1.2.2.2.1
  have hts := X.1.2.2.2.2
  rw [f_X4_isNoImage_L9] at hf
  refine lv_iconst (v := 1) hx hb dX4_isNoImage_9 (by decide) ?_
  refine lv_goto (tgt := 14) hx hb dX4_isNoImage_10 (by decide) ?_
  exact w_X4_isNoImage_L14 X hf hG (lv_sub hl [] rfl)
set_option maxHeartbeats 4000000 in
set_option maxRecDepth 100000 in
theorem c_X4_isNoImage (l : Launch) (dC : Nat → ClassId) (dI : Nat → Nat → Nat) (cy : Nat → ClassId) (a : Nat → Nat) (ha : injU a) (M : Mem) (v0 : Int32) {o : Int32} (hf : f_X4_isNoImage v0 = some o) : Met l yX4_isNoImage (wsU yX4_isNoImage cX4_isNoImage 1 (some .boolean)) ({ frames := 0, cells := 0, slots := 0, locals := 0 } : Room) (PU dC dI cy a [.int v0] M) (QUi dC dI cy a o M) 0 0 (AU a) := by
  refine mw_met (by decide) ha (Nat.le_of_ble_eq_true rfl) ?_
  intro p e s m below meth c ls X hG hl
  have hl : lv_has ls 1 [(0, .int v0)] := hl
  have X : XU dC dI cy a p s m c [.int v0].toArray meth cX4_isNoImage 1 RX4 (some .boolean) := X
  have hx := X.1.1
  have hb := X.1.2.1
  have hown := X.1.2.2.2.1
  have hts := X.1.2.2.2.2
  rw [f_X4_isNoImage] at hf
  refine lv_iload_n hx hb dX4_isNoImage_0 rfl (lv_at hl 0 rfl) ?_
  refine lv_if_lt (tgt := 9) hx hb dX4_isNoImage_1 (by decide) (fun c1 => ?_) (fun c1 => ?_)
  · have hf := itep c1 hf
    exact w_X4_isNoImage_L9 X hf hG (lv_sub hl [] rfl)
  · have hf := iten c1 hf
    refine lv_iload_n hx hb dX4_isNoImage_4 rfl (lv_at hl 0 rfl) ?_
    refine lv_iconst (v := 2) hx hb dX4_isNoImage_5 (by decide) ?_
    refine lv_icmp_lt (tgt := 13) hx hb dX4_isNoImage_6 (by decide) (fun c2 => ?_) (fun c2 => ?_)
    · have hf := itep c2 hf
      refine lv_iconst (v := 0) hx hb dX4_isNoImage_13 (by decide) ?_
      exact w_X4_isNoImage_L14 X hf hG (lv_sub hl [] rfl)
    · have hf := iten c2 hf
      exact w_X4_isNoImage_L9 X hf hG (lv_sub hl [] rfl)
/-! X4_keep -/
set_option maxHeartbeats 4000000 in
set_option maxRecDepth 100000 in
theorem c_X4_keep (l : Launch) (dC : Nat → ClassId) (dI : Nat → Nat → Nat) (cy : Nat → ClassId) (a : Nat → Nat) (ha : injU a) (this : Nat) (hT : K4 this) (M : Mem) (v1 : Int32) {o : (Int32 × Mem)} (hf : f_X4_keep M this v1 = some o) : Met l yX4_keep (wsU yX4_keep cX4_keep 2 (some .int)) ({ frames := 3, cells := 0, slots := 0, locals := 83 } : Room) (PU dC dI cy a [.ref (a this), .int v1] M) (QUi dC dI cy a o.1 o.2) 0 0 (AU a) := by
  refine mw_met (by decide) ha (Nat.le_of_ble_eq_true rfl) ?_
  intro p e s m below meth c ls X hG hl
  have hl : lv_has ls 2 [(0, .ref (a this)), (1, .int v1)] := hl
  have X : XU dC dI cy a p s m c [.ref (a this), .int v1].toArray meth cX4_keep 2 RX4 (some .int) := X
  have hx := X.1.1
  have hb := X.1.2.1
  have hown := X.1.2.2.2.1
  have hts := X.1.2.2.2.2
  rw [f_X4_keep] at hf
  refine lv_iload_n hx hb dX4_keep_0 rfl (lv_at hl 1 rfl) ?_
  obtain ⟨x1, hr2, hf⟩ := bd_some hf
  refine mw_callSi (rest := []) X hG (c_X4_isNoImage l dC dI cy a X.2.2.1  M v1 hr2) (mw_cwS X 1 g_X4_228 hd_X4_isNoImage ⟨rfl, rfl⟩ ⟨Nat.le_of_ble_eq_true rfl, Nat.le_of_ble_eq_true rfl⟩) rfl hl.1 rfl (Nat.le_of_ble_eq_true rfl) dX4_keep_1 (fun H locs hG => ?_)
  refine lv_if_eq (tgt := 10) hx hb dX4_keep_4 (by decide) (fun c3 => ?_) (fun c3 => ?_)
  · have hf := itep c3 hf
    refine lv_aload_n hx hb dX4_keep_10 rfl (lv_at hl 0 rfl) ?_
    refine gf_X4_19 X hG hT dX4_keep_11 ?_
    refine lv_iload_n hx hb dX4_keep_14 rfl (lv_at hl 1 rfl) ?_
    obtain ⟨hi4, hf⟩ := ck_some hf
    refine mw_aald1 X hG hT.2.2.2.1 hi4 dX4_keep_15 ?_
    refine lv_aload_n hx hb dX4_keep_16 rfl (lv_at hl 0 rfl) ?_
    refine gf_X4_10 X hG hT dX4_keep_17 ?_
    obtain ⟨M5, hr7, hf⟩ := bd_some hf
    refine mw_callVv (rest := []) X hG (hT.2.2.2.2.1 _ (vin_lt hi4)).1 rfl (c_X3_copyFrom l dC dI cy a X.2.2.1 (this + 75 + 1 + 37 * v1.toNatClampNeg) (hT.2.2.2.2.1 _ (vin_lt hi4)) M (this + 1) hT.2.1 hr7) (mw_cwV X 1 g_X4_218 hd_X3_copyFrom ⟨rfl, rfl⟩ ⟨Nat.le_of_ble_eq_true rfl, Nat.le_of_ble_eq_true rfl⟩) rfl hl.1 rfl (Nat.le_of_ble_eq_true rfl) dX4_keep_20 (fun H locs hG => ?_)
    refine lv_aload_n hx hb dX4_keep_23 rfl (lv_at hl 0 rfl) ?_
    refine gf_X4_23 X hG hT dX4_keep_24 ?_
    refine lv_iload_n hx hb dX4_keep_27 rfl (lv_at hl 1 rfl) ?_
    refine lv_iconst (v := 1) hx hb dX4_keep_28 (by decide) ?_
    obtain ⟨hi8, hf⟩ := ck_some hf
    refine mw_zast X hG hT.2.2.2.2.2.1 (by decide) (by decide) hi8 dX4_keep_29 (fun M9 H locs eM9 hG => ?_)
    have hf := nm_of eM9 hf
    refine lv_iconst (v := 1) hx hb dX4_keep_30 (by decide) ?_
    obtain rfl := Option.some.inj hf
    exact mw_iret X hG dX4_keep_31
  · have hf := iten c3 hf
    refine lv_ldc (v := -1000000001) hx hb hown (hts _ wd_ct_X4_58) dX4_keep_7 ?_
    obtain rfl := Option.some.inj hf
    exact mw_iret X hG dX4_keep_9
/-! X4_goBack -/
set_option maxHeartbeats 4000000 in
set_option maxRecDepth 100000 in
theorem c_X4_goBack (l : Launch) (dC : Nat → ClassId) (dI : Nat → Nat → Nat) (cy : Nat → ClassId) (a : Nat → Nat) (ha : injU a) (this : Nat) (hT : K4 this) (M : Mem) (v1 : Int32) {o : (Int32 × Mem)} (hf : f_X4_goBack M this v1 = some o) : Met l yX4_goBack (wsU yX4_goBack cX4_goBack 2 (some .int)) ({ frames := 3, cells := 0, slots := 0, locals := 83 } : Room) (PU dC dI cy a [.ref (a this), .int v1] M) (QUi dC dI cy a o.1 o.2) 0 0 (AU a) := by
  refine mw_met (by decide) ha (Nat.le_of_ble_eq_true rfl) ?_
  intro p e s m below meth c ls X hG hl
  have hl : lv_has ls 2 [(0, .ref (a this)), (1, .int v1)] := hl
  have X : XU dC dI cy a p s m c [.ref (a this), .int v1].toArray meth cX4_goBack 2 RX4 (some .int) := X
  have hx := X.1.1
  have hb := X.1.2.1
  have hown := X.1.2.2.2.1
  have hts := X.1.2.2.2.2
  rw [f_X4_goBack] at hf
  refine lv_iload_n hx hb dX4_goBack_0 rfl (lv_at hl 1 rfl) ?_
  obtain ⟨x1, hr2, hf⟩ := bd_some hf
  refine mw_callSi (rest := []) X hG (c_X4_isNoImage l dC dI cy a X.2.2.1  M v1 hr2) (mw_cwS X 1 g_X4_228 hd_X4_isNoImage ⟨rfl, rfl⟩ ⟨Nat.le_of_ble_eq_true rfl, Nat.le_of_ble_eq_true rfl⟩) rfl hl.1 rfl (Nat.le_of_ble_eq_true rfl) dX4_goBack_1 (fun H locs hG => ?_)
  refine lv_if_eq (tgt := 10) hx hb dX4_goBack_4 (by decide) (fun c3 => ?_) (fun c3 => ?_)
  · have hf := itep c3 hf
    refine lv_aload_n hx hb dX4_goBack_10 rfl (lv_at hl 0 rfl) ?_
    refine gf_X4_23 X hG hT dX4_goBack_11 ?_
    refine lv_iload_n hx hb dX4_goBack_14 rfl (lv_at hl 1 rfl) ?_
    obtain ⟨hi4, hf⟩ := ck_some hf
    refine mw_zald X hG hT.2.2.2.2.2.1 (by decide) hi4 dX4_goBack_15 ?_
    refine lv_if_ne (tgt := 22) hx hb dX4_goBack_16 (by decide) (fun c5 => ?_) (fun c5 => ?_)
    · have hf := iten c5 hf
      refine lv_aload_n hx hb dX4_goBack_22 rfl (lv_at hl 0 rfl) ?_
      refine gf_X4_10 X hG hT dX4_goBack_23 ?_
      refine lv_aload_n hx hb dX4_goBack_26 rfl (lv_at hl 0 rfl) ?_
      refine gf_X4_19 X hG hT dX4_goBack_27 ?_
      refine lv_iload_n hx hb dX4_goBack_30 rfl (lv_at hl 1 rfl) ?_
      obtain ⟨hi6, hf⟩ := ck_some hf
      refine mw_aald1 X hG hT.2.2.2.1 hi6 dX4_goBack_31 ?_
      obtain ⟨M7, hr9, hf⟩ := bd_some hf
      refine mw_callVv (rest := []) X hG hT.2.1.1 rfl (c_X3_copyFrom l dC dI cy a X.2.2.1 (this + 1) hT.2.1 M (this + 75 + 1 + 37 * v1.toNatClampNeg) (hT.2.2.2.2.1 _ (vin_lt hi6)) hr9) (mw_cwV X 1 g_X4_218 hd_X3_copyFrom ⟨rfl, rfl⟩ ⟨Nat.le_of_ble_eq_true rfl, Nat.le_of_ble_eq_true rfl⟩) rfl hl.1 rfl (Nat.le_of_ble_eq_true rfl) dX4_goBack_32 (fun H locs hG => ?_)
      refine lv_iconst (v := 1) hx hb dX4_goBack_35 (by decide) ?_
      obtain rfl := Option.some.inj hf
      exact mw_iret X hG dX4_goBack_36
    · have hf := itep c5 hf
      refine lv_ldc (v := -1000000003) hx hb hown (hts _ wd_ct_X4_73) dX4_goBack_19 ?_
      obtain rfl := Option.some.inj hf
      exact mw_iret X hG dX4_goBack_21
  · have hf := iten c3 hf
    refine lv_ldc (v := -1000000001) hx hb hown (hts _ wd_ct_X4_58) dX4_goBack_7 ?_
    obtain rfl := Option.some.inj hf
    exact mw_iret X hG dX4_goBack_9
