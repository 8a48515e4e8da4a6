/-! channelOf, between, record, form, letGo -/
theorem isCh_t {M : Mem} {S : AR} {B : Bg} (m : MS M S B) (hw : WR S) {p : Nat} (hp : p < nC S.1) : f_X5_isChannel M 157 (nI p) = some 1 := by
  have hC := hw.1.1.2.1
  have z0 : rd M (157 + 1) (1 : Int32).toNatClampNeg = nI (nC S.1) := m.1.1.1
  have h1 : (0 : Int32) ≤ nI p := nI_pos' (by omega)
  have h2 : nI p ≤ nI (nC S.1) - 1 := by
    rw [Int32.le_iff_toInt_le, show nI (nC S.1) - 1 = nI (nC S.1) - nI 1 from rfl, pk_sub_toInt (by omega) (by omega), nI_toInt (by omega)]
    omega
  unfold f_X5_isChannel
  rw [z0, x5_inL (nI p) 0 (nI (nC S.1) - 1) (by decide) rfl, decide_eq_true ⟨h1, h2⟩]
  exact ck_nI (k := 1) (by omega) (by omega)
theorem isCh_f {M : Mem} {S : AR} {B : Bg} (m : MS M S B) (hw : WR S) {x : Int32} (hx : x < 0 ∨ nI (nC S.1) ≤ x) : f_X5_isChannel M 157 x = some 0 := by
  have hC := hw.1.1.2.1
  have z0 : rd M (157 + 1) (1 : Int32).toNatClampNeg = nI (nC S.1) := m.1.1.1
  unfold f_X5_isChannel
  rw [z0, x5_inL x 0 (nI (nC S.1) - 1) (by decide) rfl, decide_eq_false (fun q => by
    obtain ⟨q1, q2⟩ := q
    rw [Int32.le_iff_toInt_le, show nI (nC S.1) - 1 = nI (nC S.1) - nI 1 from rfl, pk_sub_toInt (by omega) (by omega)] at q2
    rw [Int32.le_iff_toInt_le] at q1
    have e0 : (0 : Int32).toInt = 0 := by decide
    rcases hx with h | h
    · rw [Int32.lt_iff_toInt_lt] at h
      omega
    · rw [Int32.le_iff_toInt_le, nI_toInt (by omega)] at h
      omega)]
  exact ck_nI (k := 1) (by omega) (by omega)
theorem out_in {n : Nat} (hn : n < 1000000) (x : Int32) : (¬ (0 ≤ x ∧ x ≤ nI n) ∧ ∀ j, j ≤ n → x ≠ nI j) ∨ ∃ j, j ≤ n ∧ x = nI j ∧ (0 ≤ x ∧ x ≤ nI n) := by
  rcases pk_ix x (n := n + 1) (by omega) with h | h | ⟨j, h1, h2⟩
  · refine Or.inl ⟨fun q => ?_, fun j hj q => ?_⟩
    · have q1 := q.1
      rw [Int32.le_iff_toInt_le] at q1
      rw [Int32.lt_iff_toInt_lt] at h
      omega
    · rw [q] at h
      exact nI_pos (by omega) h
  · refine Or.inl ⟨fun q => ?_, fun j hj q => ?_⟩
    · have q2 := q.2
      rw [Int32.le_iff_toInt_le, nI_toInt (by omega)] at q2
      rw [Int32.le_iff_toInt_le, nI_toInt (by omega)] at h
      omega
    · rw [q] at h
      exact nI_ge (a := j) (b := n + 1) (by omega) (by omega) h
  · refine Or.inr ⟨j, by omega, h2, ?_, ?_⟩
    · rw [h2]; exact nI_pos' (by omega)
    · rw [h2]; exact nI_le (by omega) (by omega)
theorem st_channelOf : ST_channelOf INV := by
  intro k M x1 x2 hk hI
  have hI2 := INV_mono k M hI
  obtain ⟨S, B, c, m, hw, hfm, hb, himg⟩ := hI
  have hC := hw.1.1.2.1
  unfold f_X4_channelOf f_X5_channelOf
  have z7 : rd M (0 + 1 + 1) 7 = nI (nC S.1) := c.1.1.1
  rw [z7]
  rcases pk_ix x1 (n := nC S.1) (by omega) with h | h | ⟨cc, hc, rfl⟩
  · rw [isCh_f m hw (Or.inl h), bd_s, if_pos h, if_pos (show (0 : Int32) = 0 from rfl)]
    exact ⟨_, rfl, rfl, hI2⟩
  · rw [isCh_f m hw (Or.inr h), bd_s, if_pos (show (0 : Int32) = 0 from rfl)]
    by_cases h0 : x1 < 0
    · rw [if_pos h0]
      exact ⟨_, rfl, rfl, hI2⟩
    · rw [if_neg h0, if_neg (fun q => by
        rw [Int32.lt_iff_toInt_lt] at q
        rw [Int32.le_iff_toInt_le] at h
        omega)]
      exact ⟨_, rfl, rfl, hI2⟩
  · rw [isCh_t m hw hc, bd_s, if_neg (nI_pos (by omega)), if_pos (nI_lt hc (by omega)), if_neg (show ¬ (1 : Int32) = 0 from by decide), x5_inL x2 0 6 (by decide) (by decide), bd_s]
    rcases out_in (n := 6) (by omega) x2 with ⟨h1, h2⟩ | ⟨j, h1, h2, h3⟩
    · have n0 : ¬ x2 = 0 := h2 0 (by omega)
      have n1 : ¬ x2 = 1 := h2 1 (by omega)
      have n2 : ¬ x2 = 2 := h2 2 (by omega)
      have n3 : ¬ x2 = 3 := h2 3 (by omega)
      have n4 : ¬ x2 = 4 := h2 4 (by omega)
      have n5 : ¬ x2 = 5 := h2 5 (by omega)
      have n6 : ¬ x2 = 6 := h2 6 (by omega)
      have h1 : ¬ (0 ≤ x2 ∧ x2 ≤ 6) := h1
      rw [if_neg n0, if_neg n1, if_neg n2, if_neg n3, if_neg n4, if_neg n5, if_neg n6, decide_eq_false h1]
      exact ⟨_, rfl, rfl, hI2⟩
    · have h3 : 0 ≤ x2 ∧ x2 ≤ 6 := h3
      have bj : rd M (157 + 1) (0 + 28 + 7 * cc + j) = ch S.1 cc j := m.1.1.2 cc j hc (by omega)
      obtain ⟨b0, b1, b2, b3, b4, b5, b6⟩ := c.1.1.2 cc hc
      rw [decide_eq_true h3, if_neg (show ¬ bI true = 0 from by decide), x5_at0, bd_s, h2, nI_add]
      refine ⟨ch S.1 cc j, ?_, by rw [ck_nI (by omega) (by omega), cl_nI (by omega), bj]; rfl, hI2⟩
      simp (disch := omega) only [ck_nI, cl_nI]
      rcases (show j = 0 ∨ j = 1 ∨ j = 2 ∨ j = 3 ∨ j = 4 ∨ j = 5 ∨ j = 6 by omega) with rfl | rfl | rfl | rfl | rfl | rfl | rfl
      · rw [if_pos (by decide), b0]
      · rw [if_neg (by decide), if_pos (by decide), b1]
      · rw [if_neg (by decide), if_neg (by decide), if_pos (by decide), b2]
      · rw [if_neg (by decide), if_neg (by decide), if_neg (by decide), if_pos (by decide), b3]
      · rw [if_neg (by decide), if_neg (by decide), if_neg (by decide), if_neg (by decide), if_pos (by decide), b4]
      · rw [if_neg (by decide), if_neg (by decide), if_neg (by decide), if_neg (by decide), if_neg (by decide), if_pos (by decide), b5]
      · rw [if_neg (by decide), if_neg (by decide), if_neg (by decide), if_neg (by decide), if_neg (by decide), if_neg (by decide), if_pos (by decide), b6]
theorem twoParts {M M1 : Mem} {S : AR} {B : Bg} (c : CS M S) (m : MS M1 S B) (hw : WR S) (x1 x2 : Int32) : (∃ p q, x1 = nI p ∧ x2 = nI q ∧ p < nP S.1 ∧ q < nP S.1 ∧ p ≠ q ∧ ¬ x1 = x2 ∧ f_X4_areNotTwoParts M 0 x1 x2 = some 0 ∧ f_X5_isPart M1 157 x1 = some 1 ∧ f_X5_isPart M1 157 x2 = some 1) ∨ (f_X4_areNotTwoParts M 0 x1 x2 = some 1 ∧ (f_X5_isPart M1 157 x1 = some 0 ∨ (f_X5_isPart M1 157 x1 = some 1 ∧ f_X5_isPart M1 157 x2 = some 0) ∨ (f_X5_isPart M1 157 x1 = some 1 ∧ f_X5_isPart M1 157 x2 = some 1 ∧ x1 = x2))) := by
  have hP := hw.1.1.1
  unfold f_X4_areNotTwoParts
  rcases isPart_c hw x1 with hx | ⟨p, hp, rfl⟩
  · obtain ⟨a1, a2⟩ := isPart_f c m hw hx
    rw [a1, bd_s, if_neg (by decide)]
    exact Or.inr ⟨rfl, Or.inl a2⟩
  · obtain ⟨a1, a2⟩ := isPart_t c m hw hp
    rw [a1, bd_s, if_pos rfl]
    rcases isPart_c hw x2 with hx | ⟨q, hq, rfl⟩
    · obtain ⟨b1, b2⟩ := isPart_f c m hw hx
      rw [b1, bd_s, if_neg (by decide)]
      exact Or.inr ⟨rfl, Or.inr (Or.inl ⟨a2, b2⟩)⟩
    · obtain ⟨b1, b2⟩ := isPart_t c m hw hq
      rw [b1, bd_s, if_pos rfl]
      by_cases e : p = q
      · subst e
        rw [if_pos rfl]
        exact Or.inr ⟨rfl, Or.inr (Or.inr ⟨a2, b2, rfl⟩)⟩
      · have e2 : ¬ nI p = nI q := fun z => e ((nI_eq (by omega) (by omega)).mp z)
        rw [if_neg e2]
        exact Or.inl ⟨p, q, rfl, rfl, hp, hq, e, e2, rfl, a2, b2⟩
theorem st_between : ST_between INV := by
  intro k M x1 x2 hk hI
  have hI2 := INV_mono k M hI
  obtain ⟨S, B, c, m, hw, hfm, hb, himg⟩ := hI
  have hC := hw.1.1.2.1
  unfold f_X4_between f_X5_between
  rcases twoParts c m hw x1 x2 with ⟨p, q, h1, h2, h3, h4, h5, h6, h7, h8, h9⟩ | ⟨h1, h2⟩
  · rw [h7, h8, h9, bd_s, bd_s, bd_s, if_pos (show (0 : Int32) = 0 from rfl), if_neg (show ¬ (1 : Int32) = 0 from by decide), if_neg (show ¬ (1 : Int32) = 0 from by decide), if_neg h6, x0_find c.1.1 hC, x5_wayOf m.1.1 hC, bd_s, bd_s]
    exact ⟨_, rfl, rfl, hI2⟩
  · rw [h1, bd_s, if_neg (show ¬ (1 : Int32) = 0 from by decide)]
    refine ⟨_, rfl, ?_, hI2⟩
    rcases h2 with a | ⟨a, b⟩ | ⟨a, b, e⟩
    · rw [a, bd_s, if_pos rfl]; rfl
    · rw [a, bd_s, if_neg (by decide), b, bd_s, if_pos rfl]; rfl
    · rw [a, bd_s, if_neg (by decide), b, bd_s, if_neg (by decide), if_pos e]; rfl
theorem st_record : ST_record INV := by
  intro k M x1 x2 hk hI
  have hI2 := INV_mono k M hI
  obtain ⟨S, B, c, m, hw, hfm, hb, himg⟩ := hI
  have hl := hw.2
  unfold f_X4_record f_X5_record
  rw [x4_out, x5_inL x2 0 3 (by decide) (by decide), bd_s, bd_s]
  rcases out_in (n := 3) (by omega) x2 with ⟨h1, h2⟩ | ⟨j, h1, h2, h3⟩
  · have h1 : ¬ (0 ≤ x2 ∧ x2 ≤ 3) := h1
    rw [decide_eq_true h1, decide_eq_false h1, if_neg (show ¬ bI true = 0 from by decide), if_pos (show bI false = 0 from rfl)]
    by_cases h0 : x1 < 0
    · rw [if_pos h0]
      exact ⟨_, rfl, rfl, hI2⟩
    · rw [if_neg h0]
      exact ⟨_, rfl, rfl, hI2⟩
  · have h3 : 0 ≤ x2 ∧ x2 ≤ 3 := h3
    have h4 : ¬ ¬ (0 ≤ x2 ∧ x2 ≤ 3) := fun q => q h3
    rw [decide_eq_false h4, decide_eq_true h3, if_pos (show bI false = 0 from rfl), if_neg (show ¬ bI true = 0 from by decide)]
    by_cases h0 : x1 < 0
    · rw [if_pos h0, if_neg (show ¬ (0 : Int32) ≤ x1 from fun q => by
        rw [Int32.le_iff_toInt_le] at q
        rw [Int32.lt_iff_toInt_lt] at h0
        omega)]
      exact ⟨_, rfl, rfl, hI2⟩
    · obtain ⟨q, hq, rfl⟩ := nI_of h0
      have hq : q < 2147483648 := hq
      have z4 : rd M (0 + 151) 4 = nI S.2.length := c.2.1
      have y2 : rd M 157 2 = nI S.2.length := m.2.1.1
      rw [if_neg h0, z4, y2, if_pos (show (0 : Int32) ≤ nI q from nI_pos' hq)]
      by_cases hql : q < S.2.length
      · obtain ⟨b0, b1, b2, b3⟩ := c.2.2 q hql
        obtain ⟨d0, d1, d2, d3⟩ := m.2.1.2 q hql
        have i4 : (4 : Int32) * nI q = nI (4 * q) := pk_mul 4 q
        rw [if_pos (nI_lt hql (by omega)), if_neg (nI_ge hql (by omega)), h2, i4, nI_add, ck_nI (by omega) (by omega), ck_nI (by omega) (by omega), ck_nI (by omega) (by omega), ck_nI (by omega) (by omega), ck_nI (by omega) (by omega), cl_nI (by omega), cl_nI (by omega)]
        rcases (show j = 0 ∨ j = 1 ∨ j = 2 ∨ j = 3 by omega) with rfl | rfl | rfl | rfl
        · rw [if_pos (by decide), b0]
          exact ⟨_, rfl, congrArg some d0, hI2⟩
        · rw [if_neg (by decide), if_pos (by decide), b1]
          exact ⟨_, rfl, congrArg some d1, hI2⟩
        · rw [if_neg (by decide), if_neg (by decide), if_pos (by decide), b2]
          exact ⟨_, rfl, congrArg some d2, hI2⟩
        · rw [if_neg (by decide), if_neg (by decide), if_neg (by decide), b3]
          exact ⟨_, rfl, congrArg some d3, hI2⟩
      · rw [if_neg (nI_nlt (by omega) hq), if_pos (nI_le (by omega) hq)]
        exact ⟨_, rfl, rfl, hI2⟩
theorem st_form : ST_form INV := by
  intro k M x1 hk hI
  have hI2 := INV_mono k M hI
  obtain ⟨S, B, c, m, hw, hfm, hb, himg⟩ := hI
  have hC := hw.1.1.2.1
  unfold f_X4_form
  rw [x4_out, bd_s]
  rcases out_in (n := 2) (by omega) x1 with ⟨h1, h2⟩ | ⟨j, h1, h2, h3⟩
  · have h1 : ¬ (0 ≤ x1 ∧ x1 ≤ 2) := h1
    rw [decide_eq_true h1, if_neg (show ¬ bI true = 0 from by decide)]
    refine ⟨_, M, M, rfl, ?_, hI2⟩
    unfold f_X5_form
    rw [x5_inL x1 0 2 (by decide) (by decide), bd_s, decide_eq_false h1, if_pos (show bI false = 0 from rfl)]
  · have h3 : 0 ≤ x1 ∧ x1 ≤ 2 := h3
    have h4 : ¬ ¬ (0 ≤ x1 ∧ x1 ≤ 2) := fun q => q h3
    have z2 : rd M (0 + 1) 6 = sc S.1 2 := c.1.2.2.1 2 (by omega) (by omega)
    obtain ⟨M1, e1⟩ : ∃ M1, M1 = wr M (0 + 1) 6 x1 := ⟨_, rfl⟩
    have f1 : frC M M1 := frC_w (frm_w e1 (by omega) (by omega))
    have c1 : CS M1 (stS S.1 2 x1, S.2) := ⟨by rw [e1]; exact RC_S (k := 2) c.1 (by omega) (by omega), LC_congr c.2 (fun i j z1 z2 => (frm_w (lo := 1) (hi := 38) e1 (by omega) (by omega)).1 i j (by omega))⟩
    have m1 := MS_frC m hw.1 f1
    have y2 : rd M1 (157 + 1) (2 : Int32).toNatClampNeg = sc S.1 2 := m1.1.2.2.1 2 (by omega) (by omega)
    obtain ⟨M2, e2⟩ : ∃ M2, M2 = wr M1 (157 + 1) (2 : Int32).toNatClampNeg x1 := ⟨_, rfl⟩
    have g2 : RM M2 0 (stS S.1 2 x1) B := by
      rw [e2, show (2 : Int32).toNatClampNeg = 0 + 2 from rfl]
      exact RM_S (k := 2) m1.1 hC (by omega) (by omega)
    have f2 : frmR M1 M2 0 := frmR_w e2 (by show 0 ≤ _; omega) (by show 2 < 262; omega)
    have c2 : MS M2 (stS S.1 2 x1, S.2) B := ⟨g2, LM_congr m1.2.1 (fun i j z => f2.1 i j (by omega)), m1.2.2⟩
    refine ⟨sc S.1 2, M1, M2, ?_, ?_, INV_fin himg c1 f1 c2 (frD_r f2) ⟨WX_S hw.1 _ _, hw.2⟩ ?_ (by show nA S.1 ≤ _; omega)⟩
    · rw [decide_eq_false h4, if_pos (show bI false = 0 from rfl), z2, nm_to rfl, nm_to e1]
    · unfold f_X5_form
      have hc2 : ∀ X : Option (Int32 × Mem), ck (2 : Int32) 1048 X = X := fun X => ck_nI (k := 2) (by omega) (by omega)
      rw [x5_inL x1 0 2 (by decide) (by decide), bd_s, decide_eq_true h3, if_neg (show ¬ bI true = 0 from by decide), hc2, y2, nm_to rfl, hc2, nm_to e2]
    · unfold frmOK
      rw [sc_stS, if_pos rfl, h2]
      rcases (show j = 0 ∨ j = 1 ∨ j = 2 by omega) with rfl | rfl | rfl
      · exact Or.inl rfl
      · exact Or.inr (Or.inl rfl)
      · exact Or.inr (Or.inr rfl)
theorem st_letGo : ST_letGo INV := by
  intro k M hk hI
  have hI2 := INV_mono k M hI
  obtain ⟨S, B, c, m, hw, hfm, hb, himg⟩ := hI
  have ht := tot30 hw.1
  unfold f_X4_letGo
  rw [x3_eventsThatWait c.1 hw.1.1, bd_s]
  by_cases c0 : totE S.1 = 0
  · rw [c0, if_pos (show nI 0 = 0 from rfl)]
    refine ⟨_, M, M, rfl, ?_, hI2⟩
    unfold f_X5_letGo
    rw [ck9, z9 m, c0, if_pos (show nI 0 = 0 from rfl)]
    rfl
  · rw [if_neg (nI_ne0 (by omega) (by omega)), x3_partsThatMay c.1 hw.1.1, bd_s]
    by_cases c1 : pSet (mayA S.1) (nP S.1) = 0
    · obtain ⟨M1, a1, a2, a3⟩ := x4_let c hw (by omega) (by omega)
      have m1 := MS_frC m hw.1 a3
      obtain ⟨M2, B2, b1, b2, b3⟩ := x5_let m1 hw (by omega) (by omega)
      obtain ⟨j1, j2, j3, j4, j5, j6⟩ := WR_let hw (by omega) (by omega)
      refine ⟨leastA S.1, M1, M2, ?_, ?_, INV_fin himg a2 a3 b2 b3 j1 (by unfold frmOK; rw [j6]; exact hfm) (by omega)⟩
      · rw [if_pos c1, a1, bd2_s]
      · unfold f_X5_letGo
        rw [ck9, z9 m1, if_neg (nI_ne0 (by omega) (by omega)), x5_allMay m1.1 hw.1.1 m1.2.2 hw.1.wn, bd_s, if_pos c1, b1, bd2_s]
        rfl
    · rw [if_neg c1]
      refine ⟨_, M, M, rfl, ?_, hI2⟩
      unfold f_X5_letGo
      rw [ck9, z9 m, if_neg (nI_ne0 (by omega) (by omega)), x5_allMay m.1 hw.1.1 m.2.2 hw.1.wn, bd_s, if_neg c1]
      rfl
