/-! ring, told, run, finish -/
theorem INV_gen {k : Nat} {M M2 : Mem} {S : AR} {B : Bg} (hI : IMG (100000 * k) M) (c : CS M2 S) (m : MS M2 S B) (hw : WR S) (hfm : frmOK S.1) (hb : nA S.1 ≤ 100000 * (k + 1)) (h1 : ∀ i j, 76 ≤ i → i < 151 → rd M2 i j = rd M i j) (h2 : ∀ j, 524 ≤ j → rd M2 158 j = rd M 158 j) (h3 : ∀ j, rd M2 159 j = rd M 159 j) : INV (k + 1) M2 :=
  ⟨S, B, c, m, hw, hfm, hb, IMG_fr hI (by omega) h1 h2 h3⟩
theorem MS_far {M N : Mem} {S : AR} {B : Bg} (m : MS M S B) (hX : WX S.1) (hf : ∀ i j, i ≠ 156 → i ≠ 161 → rd N i j = rd M i j) : MS N S B := MS_fr m hX (fun j _ => hf 158 j (by omega) (by omega)) (fun j => hf 160 j (by omega) (by omega)) (hf 157 2 (by omega) (by omega))
theorem CS_far {M N : Mem} {S : AR} (c : CS M S) (hf : ∀ i j, i ≠ 156 → i ≠ 161 → rd N i j = rd M i j) : CS N S := CS_fr c (fun i j z => hf i j (by omega) (by omega))
theorem INV_far {k : Nat} {M N : Mem} (h : INV k M) (hf : ∀ i j, i ≠ 156 → i ≠ 161 → rd N i j = rd M i j) : INV (k + 1) N := by
  obtain ⟨S, B, c, m, hw, hfm, hb, hI⟩ := h
  exact INV_gen hI (CS_far c hf) (MS_far m hw.1 hf) hw hfm (by omega) (fun i j z1 z2 => hf i j (by omega) (by omega)) (fun j z => hf 158 j (by omega) (by omega)) (fun j => hf 159 j (by omega) (by omega))
theorem st_ring : ST_ring INV := by
  intro k M x1 hk hI
  have hI1 := hI
  have hI2 := INV_mono k M hI
  obtain ⟨S, B, c, m, hw, hfm, hb, himg⟩ := hI
  have hP := hw.1.1.1
  unfold f_X4_ring
  rcases isPart_c hw x1 with hx | ⟨p, hp, rfl⟩
  · obtain ⟨a1, a2⟩ := isPart_f c m hw hx
    rw [a1, bd_s, if_neg (show ¬ (1 : Int32) = 0 from by decide)]
    refine ⟨_, M, M, rfl, ?_, hI2⟩
    unfold f_X5_ring
    rw [a2, bd_s, if_pos (show (0 : Int32) = 0 from rfl)]
    rfl
  · obtain ⟨a1, a2⟩ := isPart_t c m hw hp
    rw [a1, bd_s, if_pos (show (0 : Int32) = 0 from rfl)]
    obtain ⟨M1, b1, b2⟩ := x4_ringOf c.1 hw.1 (p := p) (by omega)
    have m1 : MS M1 S B := MS_far m hw.1 (fun i j z1 z2 => b2.1 i j (by omega))
    obtain ⟨M2, d1, d2⟩ := x5_ringOf m1.1 hw.1 m1.2.2.2.1 (p := p) (by omega)
    refine ⟨oI (rgM S.1 p), M1, M2, ?_, ?_, INV_far hI1 (fun i j z1 z2 => (d2.1 i j (by omega)).trans (b2.1 i j (by omega)))⟩
    · have hle : rgC S.1 p ≤ 99999999 := (out1_snd (nevL_snd (A := S.1) (p := p)) (nP S.1) p).1
      rw [b1, bd2_s, rg_eq hw.1 hp]
      by_cases z : rgC S.1 p = 99999999
      · rw [if_pos z, z, if_pos (show nI 99999999 = 99999999 from rfl)]
        rfl
      · rw [if_neg z, if_neg (show ¬ nI (rgC S.1 p) = 99999999 from fun q => z ((nI_eq (b := 99999999) (by omega) (by omega)).mp q))]
        rfl
    · unfold f_X5_ring
      rw [isPart5_t m1 hw hp, bd_s, if_neg (show ¬ (1 : Int32) = 0 from by decide), d1, bd2_s]
      rfl
theorem st_told : ST_told INV := by
  intro k M x1 hk hI
  have hI1 := hI
  have hI2 := INV_mono k M hI
  obtain ⟨S, B, c, m, hw, hfm, hb, himg⟩ := hI
  have hP := hw.1.1.1
  have hC := hw.1.1.2.1
  have ckl : ∀ (j : Nat) (X : Option (Int32 × Mem)), j < 1048 → ck (nI j) 1048 X = X := fun j X hj => ck_nI hj (by omega)
  have z0 : rd M (157 + 1) (0 : Int32).toNatClampNeg = nI (nP S.1) := m.1.2.1
  have z1 : rd M (157 + 1) (1 : Int32).toNatClampNeg = nI (nC S.1) := m.1.1.1
  have z2 : rd M (157 + 1) (2 : Int32).toNatClampNeg = sc S.1 2 := m.1.2.2.1 2 (by omega) (by omega)
  have z3 : rd M (157 + 1) (3 : Int32).toNatClampNeg = sc S.1 3 := m.1.2.2.1 3 (by omega) (by omega)
  have z4 : rd M (157 + 1) (4 : Int32).toNatClampNeg = sc S.1 4 := m.1.2.2.1 4 (by omega) (by omega)
  have z5 : rd M (157 + 1) (5 : Int32).toNatClampNeg = sc S.1 5 := m.1.2.2.1 5 (by omega) (by omega)
  have z6 : rd M (157 + 1) (6 : Int32).toNatClampNeg = sc S.1 6 := m.1.2.2.1 6 (by omega) (by omega)
  have z7 : rd M (157 + 1) (7 : Int32).toNatClampNeg = nI (nH S.1) := m.1.2.2.2.1
  have y0 : rd M (0 + 1) 5 = nI (nP S.1) := c.1.2.1
  have y1 : rd M (0 + 1 + 1) 7 = nI (nC S.1) := c.1.1.1
  have y2 : rd M (0 + 1) 6 = sc S.1 2 := c.1.2.2.1 2 (by omega) (by omega)
  have y3 : rd M (0 + 1) 7 = sc S.1 3 := c.1.2.2.1 3 (by omega) (by omega)
  have y4 : rd M (0 + 1) 8 = sc S.1 4 := c.1.2.2.1 4 (by omega) (by omega)
  have y5 : rd M (0 + 1) 9 = sc S.1 5 := c.1.2.2.1 5 (by omega) (by omega)
  have y6 : rd M (0 + 1) 10 = sc S.1 6 := c.1.2.2.1 6 (by omega) (by omega)
  have y7 : rd M (0 + 1) 11 = nI (nH S.1) := c.1.2.2.2.1
  have y8 : rd M (0 + 151) 4 = nI S.2.length := c.2.1
  have z8 : rd M 157 2 = nI S.2.length := m.2.1.1
  unfold f_X4_told f_X5_told
  refine ch2 (fun X Y => ∃ r M2, X = some r ∧ Y = some (r, M2) ∧ INV (k + 1) M2) (fun _ => ?_) (fun _ => ?_)
  · exact ⟨_, M, rfl, by rw [z0, y0]; exact ckl 0 _ (by omega), hI2⟩
  refine ch2 (fun X Y => ∃ r M2, X = some r ∧ Y = some (r, M2) ∧ INV (k + 1) M2) (fun _ => ?_) (fun _ => ?_)
  · exact ⟨_, M, rfl, by rw [z1, y1]; exact ckl 1 _ (by omega), hI2⟩
  refine ch2 (fun X Y => ∃ r M2, X = some r ∧ Y = some (r, M2) ∧ INV (k + 1) M2) (fun _ => ?_) (fun _ => ?_)
  · exact ⟨_, M, rfl, by rw [z2, y2]; exact ckl 2 _ (by omega), hI2⟩
  refine ch2 (fun X Y => ∃ r M2, X = some r ∧ Y = some (r, M2) ∧ INV (k + 1) M2) (fun _ => ?_) (fun _ => ?_)
  · rw [x3_eventsThatWait c.1 hw.1.1, bd_s, ck9, z9 m]
    exact ⟨_, M, rfl, rfl, hI2⟩
  refine ch2 (fun X Y => ∃ r M2, X = some r ∧ Y = some (r, M2) ∧ INV (k + 1) M2) (fun _ => ?_) (fun _ => ?_)
  · exact ⟨_, M, rfl, by rw [z3, y3]; exact ckl 3 _ (by omega), hI2⟩
  refine ch2 (fun X Y => ∃ r M2, X = some r ∧ Y = some (r, M2) ∧ INV (k + 1) M2) (fun _ => ?_) (fun _ => ?_)
  · exact ⟨_, M, rfl, by rw [z4, y4]; exact ckl 4 _ (by omega), hI2⟩
  refine ch2 (fun X Y => ∃ r M2, X = some r ∧ Y = some (r, M2) ∧ INV (k + 1) M2) (fun _ => ?_) (fun _ => ?_)
  · exact ⟨_, M, rfl, by rw [z5, y5]; exact ckl 5 _ (by omega), hI2⟩
  refine ch2 (fun X Y => ∃ r M2, X = some r ∧ Y = some (r, M2) ∧ INV (k + 1) M2) (fun _ => ?_) (fun _ => ?_)
  · exact ⟨_, M, rfl, by rw [z6, y6]; exact ckl 6 _ (by omega), hI2⟩
  refine ch2 (fun X Y => ∃ r M2, X = some r ∧ Y = some (r, M2) ∧ INV (k + 1) M2) (fun _ => ?_) (fun _ => ?_)
  · rw [x3_partsThatMay c.1 hw.1.1, bd_s, x5_allMay m.1 hw.1.1 m.2.2 hw.1.wn, bd_s]
    exact ⟨_, M, rfl, rfl, hI2⟩
  refine ch2 (fun X Y => ∃ r M2, X = some r ∧ Y = some (r, M2) ∧ INV (k + 1) M2) (fun _ => ?_) (fun _ => ?_)
  · rw [x3_leastTime c.1 hw.1.1, bd_s, x5_leastTime m.1 hw.1.1 m.2.2 hw.1.wn (fun q => hw.1.2.2.2.2.1 0 (by omega)), bd_s]
    exact ⟨_, M, rfl, rfl, hI2⟩
  refine ch2 (fun X Y => ∃ r M2, X = some r ∧ Y = some (r, M2) ∧ INV (k + 1) M2) (fun _ => ?_) (fun _ => ?_)
  · rw [y8, z8]
    exact ⟨_, M, rfl, rfl, hI2⟩
  refine ch2 (fun X Y => ∃ r M2, X = some r ∧ Y = some (r, M2) ∧ INV (k + 1) M2) (fun _ => ?_) (fun _ => ?_)
  · obtain ⟨M2, d1, d2⟩ := x5_isRing m.1 hw.1 m.2.2.2.1
    rw [y0, x0_hasRing c.1.1 hw.1, bd_s, d1, bd2_s]
    refine ch2 (fun X Y => ∃ r M2, X = some r ∧ Y = some (r, M2) ∧ INV (k + 1) M2) (fun _ => ?_) (fun _ => ?_)
    · exact ⟨_, M2, rfl, rfl, INV_far hI1 (fun i j q1 q2 => d2.1 i j (by omega))⟩
    · exact ⟨_, M2, rfl, rfl, INV_far hI1 (fun i j q1 q2 => d2.1 i j (by omega))⟩
  refine ch2 (fun X Y => ∃ r M2, X = some r ∧ Y = some (r, M2) ∧ INV (k + 1) M2) (fun _ => ?_) (fun _ => ?_)
  · exact ⟨_, M, rfl, by rw [z7, y7]; exact ckl 7 _ (by omega), hI2⟩
  · exact ⟨_, M, rfl, rfl, hI2⟩
-- whether anything is run
def nrB (A : Ab) : Bool := decide (nP A = 0) || (decide (¬ sc A 2 = 1) && zB A)
theorem x4_nothing {M : Mem} {S : AR} (c : CS M S) (hw : WR S) : f_X4_nothingIsRun M 0 = some (bI (nrB S.1)) := by
  have hP := hw.1.1.1
  have y0 : rd M (0 + 1) 5 = nI (nP S.1) := c.1.2.1
  have y2 : rd M (0 + 1) 6 = sc S.1 2 := c.1.2.2.1 2 (by omega) (by omega)
  unfold f_X4_nothingIsRun nrB
  rw [y0, y2]
  by_cases h0 : nP S.1 = 0
  · rw [h0, if_pos (show nI 0 = 0 from rfl), decide_eq_true rfl, Bool.true_or]
    rfl
  · rw [if_neg (nI_ne0 (by omega) (by omega)), decide_eq_false h0, Bool.false_or]
    by_cases h1 : sc S.1 2 = 1
    · have h1' : ¬ ¬ sc S.1 2 = 1 := fun q => q h1
      rw [if_pos h1, decide_eq_false h1', Bool.false_and]
      rfl
    · rw [if_neg h1, decide_eq_true h1, Bool.true_and, x0_hasRing c.1.1 hw.1, bd_s]
      cases zB S.1 with
      | true => rw [if_neg (show ¬ bI true = 0 from by decide)]; rfl
      | false => rw [if_pos (show bI false = 0 from rfl)]; rfl
theorem x5_canRun {M : Mem} {S : AR} {B : Bg} (m : MS M S B) (hw : WR S) : ∃ N, f_X5_canRun M 157 = some (bI (!(nrB S.1)), N) ∧ frm M N 161 162 := by
  have hP := hw.1.1.1
  have z0 : rd M (157 + 1) (0 : Int32).toNatClampNeg = nI (nP S.1) := m.1.2.1
  have z2 : rd M (157 + 1) (2 : Int32).toNatClampNeg = sc S.1 2 := m.1.2.2.1 2 (by omega) (by omega)
  have hc0 : ∀ X : Option (Int32 × Mem), ck (0 : Int32) 1048 X = X := fun X => ck_nI (k := 0) (by omega) (by omega)
  have hc2 : ∀ X : Option (Int32 × Mem), ck (2 : Int32) 1048 X = X := fun X => ck_nI (k := 2) (by omega) (by omega)
  unfold f_X5_canRun nrB
  rw [hc0, z0, hc2, z2]
  by_cases h0 : nP S.1 = 0
  · rw [h0, if_pos (show nI 0 ≤ 0 from Int32.le_refl _), decide_eq_true rfl, Bool.true_or]
    exact ⟨M, rfl, frm_rf⟩
  · rw [if_neg (nI_nle (by omega) (by omega)), decide_eq_false h0, Bool.false_or]
    by_cases h1 : sc S.1 2 = 1
    · have h1' : ¬ ¬ sc S.1 2 = 1 := fun q => q h1
      rw [if_pos h1, decide_eq_false h1', Bool.false_and]
      exact ⟨M, rfl, frm_rf⟩
    · obtain ⟨N, d1, d2⟩ := x5_isRing m.1 hw.1 m.2.2.2.1
      rw [if_neg h1, decide_eq_true h1, Bool.true_and, d1, bd2_s]
      refine ⟨N, ?_, d2⟩
      cases zB S.1 with
      | true => rw [if_neg (show ¬ bI true = 0 from by decide)]; rfl
      | false => rw [if_pos (show bI false = 0 from rfl)]; rfl
theorem st_run : ST_run INV := by
  intro k M x1 hk hI
  have hI1 := hI
  have hI2 := INV_mono k M hI
  obtain ⟨S, B, c, m, hw, hfm, hb, himg⟩ := hI
  unfold f_X4_run
  rw [x4_out, bd_s]
  by_cases h1 : 1 ≤ x1 ∧ x1 ≤ 40
  · have h1' : ¬ ¬ (1 ≤ x1 ∧ x1 ≤ 40) := fun q => q h1
    obtain ⟨n, a1, a2, rfl⟩ := rng1 (n := 40) (by omega) h1
    rw [decide_eq_false h1', if_pos (show bI false = 0 from rfl), x4_nothing c hw, bd_s]
    cases hz : nrB S.1 with
    | true =>
      rw [if_neg (show ¬ bI true = 0 from by decide)]
      obtain ⟨N, d1, d2⟩ := x5_canRun m hw
      rw [hz] at d1
      refine ⟨_, M, N, rfl, ?_, INV_far hI1 (fun i j q1 q2 => d2.1 i j (by omega))⟩
      unfold f_X5_run
      rw [x5_inL (nI n) 1 40 (by decide) (by decide), bd_s, decide_eq_true h1, if_neg (show ¬ bI true = 0 from by decide), d1, bd2_s, if_pos (show bI (!true) = 0 from rfl)]
    | false =>
      have y3 : rd M (0 + 1) 7 = sc S.1 3 := c.1.2.2.1 3 (by omega) (by omega)
      rw [if_pos (show bI false = 0 from rfl), y3, nm_to rfl]
      obtain ⟨M1, b1, b2, b3⟩ := x4_runLoop (n := n) (by omega) (sc S.1 3) n 0 1000 M S (by omega) (by omega) c hw (by omega)
      have m1 := MS_frC m hw.1 b3
      obtain ⟨N, d1, d2⟩ := x5_canRun m1 hw
      rw [hz] at d1
      have mN := MS_far m1 hw.1 (fun i j q1 q2 => d2.1 i j (by omega))
      have z3 : rd N (157 + 1) (3 : Int32).toNatClampNeg = sc S.1 3 := mN.1.2.2.1 3 (by omega) (by omega)
      obtain ⟨M2, B2, g1, g2, g3⟩ := x5_runLoop (n := n) (by omega) (sc S.1 3) n 0 1000 N S B (by omega) (by omega) mN hw (by omega) hfm
      obtain ⟨j1, j2, j3, j4, j5, j6⟩ := runN_ok n S hw (by omega)
      refine ⟨_, M1, M2, b1, ?_, INV_gen himg (CS_fr b2 (fun i j q => (g3.1 i j (by omega)).trans (d2.1 i j (by omega)))) g2 j1 (by unfold frmOK; rw [j6]; exact hfm) (by omega) (fun i j q1 q2 => (g3.1 i j (by omega)).trans ((d2.1 i j (by omega)).trans (b3.1 i j (by omega)))) (fun j q => (g3.1 158 j (by omega)).trans ((d2.1 158 j (by omega)).trans (b3.1 158 j (by omega)))) (fun j => (g3.1 159 j (by omega)).trans ((d2.1 159 j (by omega)).trans (b3.1 159 j (by omega))))⟩
      unfold f_X5_run
      have hc3 : ∀ X : Option (Int32 × Mem), ck (3 : Int32) 1048 X = X := fun X => ck_nI (k := 3) (by omega) (by omega)
      rw [x5_inL (nI n) 1 40 (by decide) (by decide), bd_s, decide_eq_true h1, if_neg (show ¬ bI true = 0 from by decide), d1, bd2_s, if_neg (show ¬ bI (!false) = 0 from by decide), hc3, z3, nm_to rfl]
      exact g1
  · rw [decide_eq_true h1, if_neg (show ¬ bI true = 0 from by decide)]
    refine ⟨_, M, M, rfl, ?_, hI2⟩
    unfold f_X5_run
    rw [x5_inL x1 1 40 (by decide) (by decide), bd_s, decide_eq_false h1, if_pos (show bI false = 0 from rfl)]
theorem st_finish : ST_finish INV := by
  intro k M hk hI
  have hI1 := hI
  obtain ⟨S, B, c, m, hw, hfm, hb, himg⟩ := hI
  unfold f_X4_finish
  rw [x4_nothing c hw, bd_s]
  cases hz : nrB S.1 with
  | true =>
    rw [if_neg (show ¬ bI true = 0 from by decide)]
    obtain ⟨N, d1, d2⟩ := x5_canRun m hw
    rw [hz] at d1
    refine ⟨_, M, N, rfl, ?_, INV_far hI1 (fun i j q1 q2 => d2.1 i j (by omega))⟩
    unfold f_X5_finish
    rw [d1, bd2_s, if_pos (show bI (!true) = 0 from rfl)]
  | false =>
    have y3 : rd M (0 + 1) 7 = sc S.1 3 := c.1.2.2.1 3 (by omega) (by omega)
    rw [if_pos (show bI false = 0 from rfl), y3, nm_to rfl]
    obtain ⟨M1, b1, b2, b3⟩ := x4_finLoop (sc S.1 3) 400 0 1000 M S (by omega) (by omega) c hw (by omega)
    have m1 := MS_frC m hw.1 b3
    obtain ⟨N, d1, d2⟩ := x5_canRun m1 hw
    rw [hz] at d1
    have mN := MS_far m1 hw.1 (fun i j q1 q2 => d2.1 i j (by omega))
    have z3 : rd N (157 + 1) (3 : Int32).toNatClampNeg = sc S.1 3 := mN.1.2.2.1 3 (by omega) (by omega)
    obtain ⟨M2, B2, g1, g2, g3⟩ := x5_finLoop (sc S.1 3) 400 1000 N S B (by omega) (by omega) mN hw (by omega) hfm
    obtain ⟨j1, j2, j3, j4, j5, j6⟩ := finN_ok 400 S hw (by omega)
    refine ⟨_, M1, M2, b1, ?_, INV_gen himg (CS_fr b2 (fun i j q => (g3.1 i j (by omega)).trans (d2.1 i j (by omega)))) g2 j1 (by unfold frmOK; rw [j6]; exact hfm) (by omega) (fun i j q1 q2 => (g3.1 i j (by omega)).trans ((d2.1 i j (by omega)).trans (b3.1 i j (by omega)))) (fun j q => (g3.1 158 j (by omega)).trans ((d2.1 158 j (by omega)).trans (b3.1 158 j (by omega)))) (fun j => (g3.1 159 j (by omega)).trans ((d2.1 159 j (by omega)).trans (b3.1 159 j (by omega))))⟩
    unfold f_X5_finish
    have hc3 : ∀ X : Option (Int32 × Mem), ck (3 : Int32) 1048 X = X := fun X => ck_nI (k := 3) (by omega) (by omega)
    rw [d1, bd2_s, if_neg (show ¬ bI (!false) = 0 from by decide), hc3, z3, nm_to rfl]
    exact g1
theorem st_all : ST_all INV := ⟨st_start, INV_mono, st_parts, st_channel, st_event, st_form, st_drift, st_run, st_letGo, st_finish, st_told, st_part, st_channelOf, st_between, st_record, st_ring, st_waits, st_inOrder, st_keep, st_goBack⟩
