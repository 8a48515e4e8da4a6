/-! what holds between calls; what calls ask first; calls that only tell -/
theorem wide_le (a b : Int32) : (a.toInt64 ≤ b.toInt64) = (a ≤ b) := by
  rw [Int64.le_iff_toInt_le, Int32.toInt_toInt64, Int32.toInt_toInt64, Int32.le_iff_toInt_le]
theorem x5_inL {a' b' : Int64} (v a b : Int32) (ha : a' = a.toInt64) (hb : b' = b.toInt64) : f_X5_in v.toInt64 a' b' = some (bI (decide (a ≤ v ∧ v ≤ b))) := by
  rw [ha, hb, x5_in]
  congr 2
  exact decide_eq_decide.mpr (by rw [wide_le, wide_le])
theorem x4_out (v a b : Int32) : f_X4_isOutside v a b = some (bI (decide (¬ (a ≤ v ∧ v ≤ b)))) := by
  unfold f_X4_isOutside
  by_cases h1 : v < a
  · have h9 : ¬ (a ≤ v ∧ v ≤ b) := fun q => by
      have q1 := q.1
      rw [Int32.le_iff_toInt_le] at q1
      rw [Int32.lt_iff_toInt_lt] at h1
      omega
    rw [if_pos h1, decide_eq_true h9]
    rfl
  · have h2 : a ≤ v := by
      rw [Int32.le_iff_toInt_le]
      rw [Int32.lt_iff_toInt_lt] at h1
      omega
    rw [if_neg h1]
    by_cases h3 : v ≤ b
    · rw [if_pos h3, decide_eq_false (fun q => q ⟨h2, h3⟩)]
      rfl
    · have h9 : ¬ (a ≤ v ∧ v ≤ b) := fun q => h3 q.2
      rw [if_neg h3, decide_eq_true h9]
      rfl
theorem isPart_t {M : Mem} {S : AR} (c : CS M S) {B : Bg} {M1 : Mem} (m : MS M1 S B) (hw : WR S) {p : Nat} (hp : p < nP S.1) : f_X4_isNoPart M 0 (nI p) = some 0 ∧ f_X5_isPart M1 157 (nI p) = some 1 := by
  have hP := hw.1.1.1
  constructor
  · unfold f_X4_isNoPart
    rw [if_neg (nI_pos (by omega)), c.1.2.1, if_pos (nI_lt hp (by omega))]
    rfl
  · have z0 : rd M1 (157 + 1) (0 : Int32).toNatClampNeg = nI (nP S.1) := m.1.2.1
    have h1 : (0 : Int32) ≤ nI p := nI_pos' (by omega)
    have h2 : nI p ≤ nI (nP S.1) - 1 := by
      rw [Int32.le_iff_toInt_le, show nI (nP S.1) - 1 = nI (nP S.1) - nI 1 from rfl, pk_sub_toInt (by omega) (by omega), nI_toInt (by omega)]
      omega
    unfold f_X5_isPart
    rw [z0, x5_inL (nI p) 0 (nI (nP S.1) - 1) (by decide) rfl, decide_eq_true ⟨h1, h2⟩]
    exact ck_nI (k := 0) (by omega) (by omega)
theorem isPart_f {M : Mem} {S : AR} (c : CS M S) {B : Bg} {M1 : Mem} (m : MS M1 S B) (hw : WR S) {x : Int32} (hx : x < 0 ∨ nI (nP S.1) ≤ x) : f_X4_isNoPart M 0 x = some 1 ∧ f_X5_isPart M1 157 x = some 0 := by
  have hP := hw.1.1.1
  constructor
  · unfold f_X4_isNoPart
    rcases hx with h | h
    · rw [if_pos h]; rfl
    · by_cases h0 : x < 0
      · rw [if_pos h0]; rfl
      · rw [if_neg h0, c.1.2.1, if_neg (fun q => by
          rw [Int32.lt_iff_toInt_lt] at q
          rw [Int32.le_iff_toInt_le] at h
          omega)]
        rfl
  · have z0 : rd M1 (157 + 1) (0 : Int32).toNatClampNeg = nI (nP S.1) := m.1.2.1
    unfold f_X5_isPart
    rw [z0, x5_inL x 0 (nI (nP S.1) - 1) (by decide) rfl, decide_eq_false (fun q => by
      obtain ⟨q1, q2⟩ := q
      rw [Int32.le_iff_toInt_le, show nI (nP S.1) - 1 = nI (nP S.1) - nI 1 from rfl, pk_sub_toInt (by omega) (by omega)] at q2
      rw [Int32.le_iff_toInt_le] at q1
      have e0 : (0 : Int32).toInt = 0 := by decide
      rcases hx with h | h
      · rw [Int32.lt_iff_toInt_lt] at h
        omega
      · rw [Int32.le_iff_toInt_le, nI_toInt (by omega)] at h
        omega)]
    exact ck_nI (k := 0) (by omega) (by omega)
theorem isPart_c {S : AR} (hw : WR S) (x : Int32) : (x < 0 ∨ nI (nP S.1) ≤ x) ∨ ∃ p, p < nP S.1 ∧ x = nI p := by
  have hP := hw.1.1.1
  rcases pk_ix x (n := nP S.1) (by omega) with h | h | h
  · exact Or.inl (Or.inl h)
  · exact Or.inl (Or.inr h)
  · exact Or.inr h
-- what holds between calls
def frmOK (A : Ab) : Prop := sc A 2 = 0 ∨ sc A 2 = 1 ∨ sc A 2 = 2
def IMi (n : Nat) (M : Mem) (i : Nat) : Prop := (rd M 150 i = 0 ∧ rd M 159 i = 0) ∨ (rd M 150 i = 1 ∧ rd M 159 i = 1 ∧ ∃ A B, RC M (76 + 37 * i) A ∧ RM M (524 + 262 * i) A B ∧ WE A B ∧ WX A ∧ frmOK A ∧ nA A ≤ n)
def IMG (n : Nat) (M : Mem) : Prop := ∀ i, i < 2 → IMi n M i
def INV (k : Nat) (M : Mem) : Prop := ∃ S B, CS M S ∧ MS M S B ∧ WR S ∧ frmOK S.1 ∧ nA S.1 ≤ 100000 * k ∧ IMG (100000 * k) M
theorem IMi_fr {n n1 : Nat} {M M1 : Mem} {i : Nat} (h : IMi n M i) (hi : i < 2) (hn : n ≤ n1) (h1 : ∀ i j, 76 ≤ i → i < 151 → rd M1 i j = rd M i j) (h2 : ∀ j, 524 ≤ j → rd M1 158 j = rd M 158 j) (h3 : ∀ j, rd M1 159 j = rd M 159 j) : IMi n1 M1 i := by
  rcases h with ⟨q1, q2⟩ | ⟨q1, q2, A, B, q3, q4, q5, q6, q7, q8⟩
  · exact Or.inl ⟨by rw [h1 _ _ (by omega) (by omega)]; exact q1, by rw [h3]; exact q2⟩
  · refine Or.inr ⟨by rw [h1 _ _ (by omega) (by omega)]; exact q1, by rw [h3]; exact q2, A, B, RC_congr q3 (fun a b z1 z2 => h1 a b (by omega) (by omega)), RM_congr q4 q6.1.2.1 q5.2.1 (fun j z1 z2 => h2 j (by omega)), q5, q6, q7, by omega⟩
theorem IMG_fr {n n1 : Nat} {M M1 : Mem} (h : IMG n M) (hn : n ≤ n1) (h1 : ∀ i j, 76 ≤ i → i < 151 → rd M1 i j = rd M i j) (h2 : ∀ j, 524 ≤ j → rd M1 158 j = rd M 158 j) (h3 : ∀ j, rd M1 159 j = rd M 159 j) : IMG n1 M1 := fun i hi => IMi_fr (h i hi) hi hn h1 h2 h3
theorem CS_fr {M M1 : Mem} {S : AR} (h : CS M S) (hf : ∀ i j, (1 ≤ i ∧ i < 38) ∨ (151 ≤ i ∧ i < 156) → rd M1 i j = rd M i j) : CS M1 S :=
  ⟨RC_congr h.1 (fun i j h1 h2 => hf i j (by omega)), LC_congr h.2 (fun i j h1 h2 => hf i j (by omega))⟩
theorem MS_fr {M M1 : Mem} {S : AR} {B : Bg} (h : MS M S B) (hX : WX S.1) (h1 : ∀ j, j < 262 → rd M1 158 j = rd M 158 j) (h2 : ∀ j, rd M1 160 j = rd M 160 j) (h3 : rd M1 157 2 = rd M 157 2) : MS M1 S B :=
  ⟨RM_congr h.1 hX.1.2.1 h.2.2.2.1 (fun j _ z => h1 j (by omega)), LM_congr h.2.1 (fun i j z => by
    rcases z with z | z
    · rw [z]; exact h2 j
    · rw [z.1, z.2]; exact h3), h.2.2⟩
theorem MS_frC {M M1 : Mem} {S : AR} {B : Bg} (h : MS M S B) (hX : WX S.1) (hf : frC M M1) : MS M1 S B :=
  MS_fr h hX (fun j _ => hf.1 158 j (by omega)) (fun j => hf.1 160 j (by omega)) (hf.1 157 2 (by omega))
theorem INV_fin {k : Nat} {M M1 M2 : Mem} {S : AR} {B : Bg} (hI : IMG (100000 * k) M) (c1 : CS M1 S) (f1 : frC M M1) (c2 : MS M2 S B) (f2 : frD M1 M2) (hw : WR S) (hfm : frmOK S.1) (hb : nA S.1 ≤ 100000 * (k + 1)) : INV (k + 1) M2 :=
  ⟨S, B, CS_fr c1 (fun i j z => f2.1 i j (by omega)), c2, hw, hfm, hb, IMG_fr hI (by omega) (fun i j z1 z2 => (f2.1 i j (by omega)).trans (f1.1 i j (by omega))) (fun j z => (f2.1 158 j (by omega)).trans (f1.1 158 j (by omega))) (fun j => (f2.1 159 j (by omega)).trans (f1.1 159 j (by omega)))⟩
theorem INV_mono (k : Nat) (M : Mem) (h : INV k M) : INV (k + 1) M := by
  obtain ⟨S, B, c, m, hw, hfm, hb, hI⟩ := h
  exact ⟨S, B, c, m, hw, hfm, by omega, IMG_fr hI (by omega) (fun _ _ _ _ => rfl) (fun _ _ => rfl) (fun _ => rfl)⟩
theorem ch2 {c : Prop} {i1 i2 : Decidable c} {α β : Type} {X X' : Option α} {Y Y' : Option β} (G : Option α → Option β → Prop) (h1 : c → G X Y) (h2 : ¬ c → G X' Y') : G (@ite (Option α) c i1 X X') (@ite (Option β) c i2 Y Y') := by
  by_cases h : c
  · rw [if_pos h, if_pos h]; exact h1 h
  · rw [if_neg h, if_neg h]; exact h2 h
-- how many events of a part the bag holds
theorem pCnt_shift {f : Nat → Bool} : ∀ k, pCnt f (k + 1) = (if f 0 = true then 1 else 0) + pCnt (fun i => f (i + 1)) k
  | 0 => by show 0 + _ = _ + 0; rw [Nat.zero_add, Nat.add_zero]
  | k + 1 => by
    show pCnt f (k + 1) + (if f (k + 1) = true then 1 else 0) = (if f 0 = true then 1 else 0) + (pCnt (fun i => f (i + 1)) k + (if f (k + 1) = true then 1 else 0))
    rw [pCnt_shift k, Nat.add_assoc]
theorem ofP_cnt {p : Nat} : ∀ {B : Bg}, pCnt (fun e => decide ((Bt B e).1 = p)) B.length = (ofP B p).length
  | [] => rfl
  | (q, y) :: B => by
    show pCnt (fun e => decide ((Bt ((q, y) :: B) e).1 = p)) (B.length + 1) = _
    rw [pCnt_shift]
    have ih := ofP_cnt (p := p) (B := B)
    have h1 : pCnt (fun i => decide ((Bt ((q, y) :: B) (i + 1)).1 = p)) B.length = (ofP B p).length := ih
    rw [h1]
    show (if decide (q = p) = true then 1 else 0) + _ = _
    by_cases c : q = p
    · rw [c, ofP_self, decide_eq_true rfl, if_pos rfl]
      show 1 + (ofP B p).length = (ofP B p).length + 1
      omega
    · rw [ofP_ne (fun z => c z.symm), decide_eq_false c, if_neg (by decide), Nat.zero_add]
theorem x5_waitFor {M : Mem} {A : Ab} {B : Bg} (h : RM M 0 A B) (hs : WS A) (he : WE A B) {p : Nat} (hp : p < 6) : f_X5_waitFor M 157 0 (nI p) = some (nI (ev A p).length) := by
  have hb := h.2.2.2.2.2.2
  have hl := he.2.1
  rw [← (he.1 p).length_eq, ← ofP_cnt]
  show f_X5_waitFor_L5 M 157 (nI 0) (nI p) 1000 (nI 0) (nI 0) = _
  refine loop_up (f_X5_waitFor_L5 M 157 (nI 0) (nI p)) B.length (fun k => nI (pCnt (fun e => decide ((Bt B e).1 = p)) k)) _ (fun n => ?_) (fun n k hk => ?_) 1000 (by omega)
  · simp (disch := omega) only [f_X5_waitFor_L5, lit_nI, nI_add, ck_nI, cl_nI, hb.1, le_nI, Nat.le_refl, if_true]
  · obtain ⟨e0, -⟩ := hb.2 k hk
    have hkn : ¬ B.length ≤ k := by omega
    have h6 := he.six hs k hk
    rw [f_X5_waitFor_L5]
    by_cases hq : (Bt B k).1 = p
    · simp (disch := omega) only [lit_nI, nI_add, pk_mul, ck_nI, cl_nI, hb.1, le_nI, hkn, if_false, e0, eq_nI, hq, if_true, f_X5_waitFor_L45, nm, pCnt, decide_true]
    · simp (disch := omega) only [lit_nI, nI_add, pk_mul, ck_nI, cl_nI, hb.1, le_nI, hkn, if_false, e0, eq_nI, hq, f_X5_waitFor_L45, nm, pCnt, decide_false, Bool.false_eq_true]
theorem st_part : ST_part INV := by
  intro k M x1 x2 hk hI
  have hI2 := INV_mono k M hI
  obtain ⟨S, B, c, m, hw, hfm, hb, himg⟩ := hI
  have hP := hw.1.1.1
  have hC := hw.1.1.2.1
  unfold f_X4_part f_X5_part
  rcases isPart_c hw x1 with hx | ⟨p, hp, rfl⟩
  · obtain ⟨a1, a2⟩ := isPart_f c m hw hx
    rw [a1, a2, bd_s, bd_s, if_neg (show ¬ (1 : Int32) = 0 from by decide), if_pos (show (0 : Int32) = 0 from rfl)]
    exact ⟨_, rfl, rfl, hI2⟩
  · obtain ⟨a1, a2⟩ := isPart_t c m hw hp
    rw [a1, a2, bd_s, bd_s, if_pos (show (0 : Int32) = 0 from rfl), if_neg (show ¬ (1 : Int32) = 0 from by decide)]
    have i10 : (10 : Int32) + nI p = nI (10 + p) := nI_add 10 p
    have i16 : (16 : Int32) + nI p = nI (16 + p) := nI_add 16 p
    have i22 : (22 : Int32) + nI p = nI (22 + p) := nI_add 22 p
    have c0 : rd M (0 + 1 + 10) p = pt S.1 0 p := c.1.2.2.2.2.1 0 p (by omega) (by omega)
    have c1 : rd M (0 + 1 + 11) p = pt S.1 1 p := c.1.2.2.2.2.1 1 p (by omega) (by omega)
    have c2 : rd M (0 + 1 + 12) p = pt S.1 2 p := c.1.2.2.2.2.1 2 p (by omega) (by omega)
    obtain ⟨m0, m1, m2⟩ := m.1.2.2.2.2.2.1 p (by omega)
    rw [Nat.zero_add] at m0 m1 m2
    have m0 : rd M (157 + 1) (10 + p) = pt S.1 0 p := m0
    have m1 : rd M (157 + 1) (16 + p) = pt S.1 1 p := m1
    have m2 : rd M (157 + 1) (22 + p) = pt S.1 2 p := m2
    have hwt := c.1.2.2.2.2.2 p (by omega)
    have c4 : rd M (0 + 1 + 9 + 4 + 4 * p) 3 = nI (ev S.1 p).length := hwt.1
    have m9 : f_X5_outOf M 157 0 (nI p) = _ := x5_outOf m.1.1 hC (by omega) (nI p)
    have m5 : f_X5_firstTime M 157 0 (nI p) = _ := x5_firstTime m.1 hw.1.1 m.2.2 (by omega) (by omega)
    rw [i10, i16, i22]
    refine ch2 (fun X Y => ∃ r, X = some r ∧ Y = some r ∧ INV (k + 1) M) (fun h => ?_) (fun _ => ?_)
    · exact ⟨pt S.1 0 p, by rw [ck_nI (by omega) (by omega), cl_nI (by omega), c0], by rw [ck_nI (by omega) (by omega), cl_nI (by omega), m0], hI2⟩
    refine ch2 (fun X Y => ∃ r, X = some r ∧ Y = some r ∧ INV (k + 1) M) (fun h => ?_) (fun _ => ?_)
    · exact ⟨pt S.1 1 p, by rw [ck_nI (by omega) (by omega), cl_nI (by omega), c1], by rw [ck_nI (by omega) (by omega), cl_nI (by omega), m1], hI2⟩
    refine ch2 (fun X Y => ∃ r, X = some r ∧ Y = some r ∧ INV (k + 1) M) (fun h => ?_) (fun _ => ?_)
    · exact ⟨pt S.1 2 p, by rw [ck_nI (by omega) (by omega), cl_nI (by omega), c2], by rw [ck_nI (by omega) (by omega), cl_nI (by omega), m2], hI2⟩
    refine ch2 (fun X Y => ∃ r, X = some r ∧ Y = some r ∧ INV (k + 1) M) (fun h => ?_) (fun _ => ?_)
    · exact ⟨_, by rw [x3_safeOf c.1 hw.1.1, bd_s], by rw [x5_safe m.1.1 hC, bd_s], hI2⟩
    refine ch2 (fun X Y => ∃ r, X = some r ∧ Y = some r ∧ INV (k + 1) M) (fun h => ?_) (fun _ => ?_)
    · exact ⟨nI (ev S.1 p).length, by rw [ck_nI (by omega) (by omega), cl_nI (by omega), c4], by rw [x5_waitFor m.1 hw.1.1 m.2.2 (by omega), bd_s], hI2⟩
    refine ch2 (fun X Y => ∃ r, X = some r ∧ Y = some r ∧ INV (k + 1) M) (fun h => ?_) (fun _ => ?_)
    · exact ⟨headT (ev S.1 p), by rw [ck_nI (by omega) (by omega), cl_nI (by omega), x2_firstTime hwt (hw.1.1.2.2.2 p), bd_s], by rw [m5, bd_s], hI2⟩
    refine ch2 (fun X Y => ∃ r, X = some r ∧ Y = some r ∧ INV (k + 1) M) (fun h => ?_) (fun _ => ?_)
    · exact ⟨headV (ev S.1 p), by rw [ck_nI (by omega) (by omega), cl_nI (by omega), x2_firstValue hwt (hw.1.1.2.2.2 p), bd_s], by rw [x5_firstValue m.1 hw.1.1 m.2.2 (by omega), bd_s], hI2⟩
    refine ch2 (fun X Y => ∃ r, X = some r ∧ Y = some r ∧ INV (k + 1) M) (fun h => ?_) (fun _ => ?_)
    · rw [x3_mayWork c.1 hw.1.1 (by omega), x5_may m.1 hw.1.1 m.2.2 hw.1.wn (by omega), bd_s, bd_s]
      refine ch2 (fun X Y => ∃ r, X = some r ∧ Y = some r ∧ INV (k + 1) M) (fun h => ?_) (fun _ => ?_)
      · exact ⟨_, rfl, rfl, hI2⟩
      · exact ⟨_, rfl, rfl, hI2⟩
    refine ch2 (fun X Y => ∃ r, X = some r ∧ Y = some r ∧ INV (k + 1) M) (fun h => ?_) (fun _ => ?_)
    · exact ⟨_, by rw [x3_channelWaitedFor c.1 hw.1.1 (by omega), bd_s], by rw [x5_waitsBy m.1 hw.1.1 m.2.2 hw.1.wn (by omega), bd_s], hI2⟩
    refine ch2 (fun X Y => ∃ r, X = some r ∧ Y = some r ∧ INV (k + 1) M) (fun h => ?_) (fun _ => ?_)
    · exact ⟨_, by rw [x0_countFrom c.1.1 hC, bd_s], by rw [m9, bd_s], hI2⟩
    refine ch2 (fun X Y => ∃ r, X = some r ∧ Y = some r ∧ INV (k + 1) M) (fun h => ?_) (fun _ => ?_)
    · exact ⟨_, by rw [x0_countTo c.1.1 hC, bd_s], by rw [x5_waysTo m.1.1 hC, bd_s], hI2⟩
    · exact ⟨_, rfl, rfl, hI2⟩
