/-! parts; the start -/
def zA (n : Nat) (f : Int32) : Ab := ((n, 0, 0, 0), (fun k => if k = 2 then f else 0), (fun _ _ => 0), (fun _ _ => 0), (fun _ => []))
theorem WX_zA {n : Nat} (h : n ≤ 6) (f : Int32) : WX (zA n f) := by
  refine ⟨⟨h, Nat.zero_le _, Nat.zero_le _, fun _ => Nat.zero_le _⟩, fun c hc => absurd hc (Nat.not_lt_zero c), fun _ => List.Pairwise.nil, fun q y hy => (by cases hy), fun _ _ => rfl, ?_, fun q y hy => (by cases hy), fun c hc => absurd hc (Nat.not_lt_zero c)⟩
  show pSum (fun p => (ev (zA n f) p).length) n ≤ 0
  exact Nat.le_of_eq (pSum_zero (f := fun p => (ev (zA n f) p).length) (fun _ => rfl))
theorem WE_zA {n : Nat} (f : Int32) : WE (zA n f) [] := ⟨fun _ => List.Perm.nil, Nat.zero_le _, fun e he => absurd he (Nat.not_lt_zero e), fun _ => List.Pairwise.nil⟩
theorem RC_zA {M : Mem} {n : Nat} {f : Int32} (h0 : rd M (0 + 1 + 1) 7 = 0) (h1 : rd M (0 + 1) 5 = nI n) (h2 : rd M (0 + 1) 6 = f) (h3 : ∀ k, 7 ≤ k → k < 12 → rd M (0 + 1) k = 0) (h4 : ∀ p, p < 6 → rd M (0 + 1 + 9 + 4 + 4 * p) 3 = 0 ∧ rd M (0 + 1 + 10) p = 0 ∧ rd M (0 + 1 + 11) p = 0 ∧ rd M (0 + 1 + 12) p = 0) : RC M (0 + 1) (zA n f) := by
  refine ⟨⟨h0, fun c hc => absurd hc (Nat.not_lt_zero c)⟩, h1, fun k q1 q2 => ?_, h3 11 (by omega) (by omega), fun k p q1 q2 => ?_, fun p hp => ⟨(h4 p hp).1, fun j hj => absurd hj (Nat.not_lt_zero j)⟩⟩
  · show _ = if k = 2 then f else 0
    by_cases e : k = 2
    · rw [if_pos e, e]; exact h2
    · rw [if_neg e]; exact h3 (k + 4) (by omega) (by omega)
  · obtain ⟨-, b0, b1, b2⟩ := h4 p q2
    rcases (show k = 0 ∨ k = 1 ∨ k = 2 by omega) with rfl | rfl | rfl
    · exact b0
    · exact b1
    · exact b2
theorem RM_zA {M : Mem} {n : Nat} {f : Int32} (h1 : rd M 158 0 = nI n) (h2 : rd M 158 2 = f) (h3 : ∀ k, k ≠ 0 → k ≠ 2 → k < 262 → rd M 158 k = 0) : RM M 0 (zA n f) [] := by
  refine ⟨⟨h3 1 (by omega) (by omega) (by omega), fun c k hc => absurd hc (Nat.not_lt_zero c)⟩, h1, fun k q1 q2 => ?_, h3 7 (by omega) (by omega) (by omega), h3 8 (by omega) (by omega) (by omega), fun p hp => ⟨h3 _ (by omega) (by omega) (by omega), h3 _ (by omega) (by omega) (by omega), h3 _ (by omega) (by omega) (by omega)⟩, h3 9 (by omega) (by omega) (by omega), fun e he => absurd he (Nat.not_lt_zero e)⟩
  rw [Nat.zero_add]
  show _ = if k = 2 then f else 0
  by_cases e : k = 2
  · rw [if_pos e, e]; exact h2
  · rw [if_neg e]; exact h3 k (by omega) e (by omega)
theorem x3_anew {M : Mem} {n : Nat} : ∃ M1, f_X3_beginAnew M (0 + 1) (nI n) = some M1 ∧ RC M1 (0 + 1) (zA n (rd M (0 + 1) 6)) ∧ frm M M1 1 38 := by
  obtain ⟨M0', e0⟩ : ∃ M0', M0' = wr M (0 + 1 + 1) 7 0 := ⟨_, rfl⟩
  unfold f_X3_beginAnew
  rw [nm_to e0]
  refine loop_st (f_X3_beginAnew_L10 (0 + 1) (nI n)) 6 (fun k N => (∀ p, p < k → rd N (0 + 1 + 9 + 4 + 4 * p) 3 = 0 ∧ rd N (0 + 1 + 10) p = 0 ∧ rd N (0 + 1 + 11) p = 0 ∧ rd N (0 + 1 + 12) p = 0) ∧ rd N (0 + 1 + 1) 7 = 0 ∧ rd N (0 + 1) 6 = rd M (0 + 1) 6 ∧ frm M N 1 38) _ (fun m N hN => ?_) (fun m k N hk hN => ?_) 1000 M0' (by omega) ⟨fun p hp => absurd hp (Nat.not_lt_zero p), by rw [e0, rd_wr, if_pos ⟨rfl, rfl⟩], by rw [e0, rd_wr, if_neg (by omega)], frm_w e0 (by omega) (by omega)⟩
  · obtain ⟨h1, h2, h3, hf⟩ := hN
    obtain ⟨N2, e2⟩ : ∃ N2, N2 = wr N (0 + 1) 5 (nI n) := ⟨_, rfl⟩
    obtain ⟨N3, e3⟩ : ∃ N3, N3 = wr N2 (0 + 1) 7 0 := ⟨_, rfl⟩
    obtain ⟨N4, e4⟩ : ∃ N4, N4 = wr N3 (0 + 1) 8 0 := ⟨_, rfl⟩
    obtain ⟨N5, e5⟩ : ∃ N5, N5 = wr N4 (0 + 1) 9 0 := ⟨_, rfl⟩
    obtain ⟨N6, e6⟩ : ∃ N6, N6 = wr N5 (0 + 1) 10 0 := ⟨_, rfl⟩
    obtain ⟨N7, e7⟩ : ∃ N7, N7 = wr N6 (0 + 1) 11 0 := ⟨_, rfl⟩
    have hrd : ∀ i j, i ≠ 0 + 1 → rd N7 i j = rd N i j := fun i j q => by
      rw [e7, rd_wr, if_neg (by omega), e6, rd_wr, if_neg (by omega), e5, rd_wr, if_neg (by omega), e4, rd_wr, if_neg (by omega), e3, rd_wr, if_neg (by omega), e2, rd_wr, if_neg (by omega)]
    refine ⟨N7, ?_, RC_zA ?_ ?_ ?_ (fun k q1 q2 => ?_) (fun p hp => ?_), frm_tr hf (frm_tr (frm_w e2 (by omega) (by omega)) (frm_tr (frm_w e3 (by omega) (by omega)) (frm_tr (frm_w e4 (by omega) (by omega)) (frm_tr (frm_w e5 (by omega) (by omega)) (frm_tr (frm_w e6 (by omega) (by omega)) (frm_w e7 (by omega) (by omega)))))))⟩
    · rw [f_X3_beginAnew_L10, if_pos (show (6 : Int32) ≤ nI 6 from Int32.le_refl _), nm_to e2, nm_to e3, nm_to e4, nm_to e5, nm_to e6, nm_to e7]
    · rw [hrd _ _ (by omega)]; exact h2
    · rw [e7, rd_wr, if_neg (by omega), e6, rd_wr, if_neg (by omega), e5, rd_wr, if_neg (by omega), e4, rd_wr, if_neg (by omega), e3, rd_wr, if_neg (by omega), e2, rd_wr, if_pos ⟨rfl, rfl⟩]
    · rw [e7, rd_wr, if_neg (by omega), e6, rd_wr, if_neg (by omega), e5, rd_wr, if_neg (by omega), e4, rd_wr, if_neg (by omega), e3, rd_wr, if_neg (by omega), e2, rd_wr, if_neg (by omega)]
      exact h3
    · rcases (show k = 7 ∨ k = 8 ∨ k = 9 ∨ k = 10 ∨ k = 11 by omega) with rfl | rfl | rfl | rfl | rfl
      · rw [e7, rd_wr, if_neg (by omega), e6, rd_wr, if_neg (by omega), e5, rd_wr, if_neg (by omega), e4, rd_wr, if_neg (by omega), e3, rd_wr, if_pos ⟨rfl, rfl⟩]
      · rw [e7, rd_wr, if_neg (by omega), e6, rd_wr, if_neg (by omega), e5, rd_wr, if_neg (by omega), e4, rd_wr, if_pos ⟨rfl, rfl⟩]
      · rw [e7, rd_wr, if_neg (by omega), e6, rd_wr, if_neg (by omega), e5, rd_wr, if_pos ⟨rfl, rfl⟩]
      · rw [e7, rd_wr, if_neg (by omega), e6, rd_wr, if_pos ⟨rfl, rfl⟩]
      · rw [e7, rd_wr, if_pos ⟨rfl, rfl⟩]
    · rw [hrd _ _ (by omega), hrd _ _ (by omega), hrd _ _ (by omega), hrd _ _ (by omega)]
      exact h1 p hp
  · obtain ⟨h1, h2, h3, hf⟩ := hN
    obtain ⟨N2, e2⟩ : ∃ N2, N2 = wr N (0 + 1 + 9 + 4 + 4 * k) 3 0 := ⟨_, rfl⟩
    obtain ⟨N3, e3⟩ : ∃ N3, N3 = wr N2 (0 + 1 + 10) k 0 := ⟨_, rfl⟩
    obtain ⟨N4, e4⟩ : ∃ N4, N4 = wr N3 (0 + 1 + 11) k 0 := ⟨_, rfl⟩
    obtain ⟨N5, e5⟩ : ∃ N5, N5 = wr N4 (0 + 1 + 12) k 0 := ⟨_, rfl⟩
    have h6 : ¬ (6 : Int32) ≤ nI k := nI_ge (b := 6) hk (by omega)
    refine ⟨N5, ⟨fun p hp => ?_, ?_, ?_, frm_tr hf (frm_tr (frm_w e2 (by omega) (by omega)) (frm_tr (frm_w e3 (by omega) (by omega)) (frm_tr (frm_w e4 (by omega) (by omega)) (frm_w e5 (by omega) (by omega)))))⟩, ?_⟩
    · by_cases e : p = k
      · subst e
        refine ⟨?_, ?_, ?_, ?_⟩
        · rw [e5, rd_wr, if_neg (by omega), e4, rd_wr, if_neg (by omega), e3, rd_wr, if_neg (by omega), e2, rd_wr, if_pos ⟨rfl, rfl⟩]
        · rw [e5, rd_wr, if_neg (by omega), e4, rd_wr, if_neg (by omega), e3, rd_wr, if_pos ⟨rfl, rfl⟩]
        · rw [e5, rd_wr, if_neg (by omega), e4, rd_wr, if_pos ⟨rfl, rfl⟩]
        · rw [e5, rd_wr, if_pos ⟨rfl, rfl⟩]
      · obtain ⟨a0, a1, a2, a3⟩ := h1 p (by omega)
        refine ⟨?_, ?_, ?_, ?_⟩
        · rw [e5, rd_wr, if_neg (by omega), e4, rd_wr, if_neg (by omega), e3, rd_wr, if_neg (by omega), e2, rd_wr, if_neg (by omega)]; exact a0
        · rw [e5, rd_wr, if_neg (by omega), e4, rd_wr, if_neg (by omega), e3, rd_wr, if_neg (by omega), e2, rd_wr, if_neg (by omega)]; exact a1
        · rw [e5, rd_wr, if_neg (by omega), e4, rd_wr, if_neg (by omega), e3, rd_wr, if_neg (by omega), e2, rd_wr, if_neg (by omega)]; exact a2
        · rw [e5, rd_wr, if_neg (by omega), e4, rd_wr, if_neg (by omega), e3, rd_wr, if_neg (by omega), e2, rd_wr, if_neg (by omega)]; exact a3
    · rw [e5, rd_wr, if_neg (by omega), e4, rd_wr, if_neg (by omega), e3, rd_wr, if_neg (by omega), e2, rd_wr, if_neg (by omega)]; exact h2
    · rw [e5, rd_wr, if_neg (by omega), e4, rd_wr, if_neg (by omega), e3, rd_wr, if_neg (by omega), e2, rd_wr, if_neg (by omega)]; exact h3
    · rw [f_X3_beginAnew_L10, if_neg h6, ck_nI (by omega) (by omega), cl_nI (by omega), nm_to e2, ck_nI (by omega) (by omega), nm_to e3, ck_nI (by omega) (by omega), nm_to e4, ck_nI (by omega) (by omega), nm_to e5]
      unfold nm
      rw [nI_succ]
theorem x5_anew {M : Mem} {n : Nat} (hn : n < 2147483648) (v2 f : Int32) : ∃ M1, f_X5_parts_L32 157 (nI n) v2 f 1000 M 0 = some (v2, M1) ∧ RM M1 0 (zA n f) [] ∧ LM M1 [] ∧ rd M1 159 0 = 0 ∧ rd M1 159 1 = 0 ∧ (∀ i j, i ≠ 157 → i ≠ 158 → i ≠ 159 → rd M1 i j = rd M i j) ∧ (∀ j, 262 ≤ j → rd M1 158 j = rd M 158 j) := by
  have key := loop_st (f_X5_parts_L32 157 (nI n) v2 f) 262 (fun k N => (∀ j, j < k → rd N 158 j = 0) ∧ frmR M N 0) (fun r => r.1 = v2 ∧ RM r.2 0 (zA n f) [] ∧ LM r.2 [] ∧ rd r.2 159 0 = 0 ∧ rd r.2 159 1 = 0 ∧ (∀ i j, i ≠ 157 → i ≠ 158 → i ≠ 159 → rd r.2 i j = rd M i j) ∧ (∀ j, 262 ≤ j → rd r.2 158 j = rd M 158 j)) (fun m N hN => ?_) (fun m k N hk hN => ?_) 1000 M (by omega) ⟨fun j hj => absurd hj (Nat.not_lt_zero j), frmR_rf⟩
  · obtain ⟨⟨r1, r2⟩, k1, k2, k3⟩ := key
    have k2 : r1 = v2 := k2
    refine ⟨r2, ?_, k3⟩
    rw [← k2] at k1 ⊢
    exact k1
  · obtain ⟨h1, hf⟩ := hN
    obtain ⟨N3, e3⟩ : ∃ N3, N3 = wr N (157 + 1) (0 : Int32).toNatClampNeg (nI n) := ⟨_, rfl⟩
    obtain ⟨N5, e5⟩ : ∃ N5, N5 = wr N3 (157 + 1) (2 : Int32).toNatClampNeg f := ⟨_, rfl⟩
    obtain ⟨N6, e6⟩ : ∃ N6, N6 = wr N5 157 2 0 := ⟨_, rfl⟩
    obtain ⟨N8, e8⟩ : ∃ N8, N8 = wr N6 (157 + 2) (0 : Int32).toNatClampNeg 0 := ⟨_, rfl⟩
    obtain ⟨N10, e10⟩ : ∃ N10, N10 = wr N8 (157 + 2) (1 : Int32).toNatClampNeg 0 := ⟨_, rfl⟩
    have hgo : f_X5_parts_L32 157 (nI n) v2 f (m + 1) N (nI 262) = some (v2, N10) := by
      have hc0 : ∀ X : Option (Int32 × Mem), ck (0 : Int32) 1048 X = X := fun X => ck_nI (k := 0) (by omega) (by omega)
      have hc2 : ∀ X : Option (Int32 × Mem), ck (2 : Int32) 1048 X = X := fun X => ck_nI (k := 2) (by omega) (by omega)
      have hd0 : ∀ X : Option (Int32 × Mem), ck (0 : Int32) 2 X = X := fun X => ck_nI (k := 0) (by omega) (by omega)
      have hd1 : ∀ X : Option (Int32 × Mem), ck (1 : Int32) 2 X = X := fun X => ck_nI (k := 1) (by omega) (by omega)
      rw [f_X5_parts_L32, if_pos (show (262 : Int32) ≤ nI 262 from Int32.le_refl _), hc0, nm_to e3, hc2, nm_to e5, nm_to e6, hd0, nm_to e8, hd1, nm_to e10]
    have l0 : (0 : Int32).toNatClampNeg = 0 := rfl
    have l1 : (1 : Int32).toNatClampNeg = 1 := rfl
    have l2 : (2 : Int32).toNatClampNeg = 2 := rfl
    rw [l0] at e3 e8
    rw [l2] at e5
    rw [l1] at e10
    have hrd : ∀ i j, i ≠ 159 → (i ≠ 157 ∨ j ≠ 2) → (i ≠ 158 ∨ (j ≠ 0 ∧ j ≠ 2)) → rd N10 i j = rd N i j := fun i j q1 q2 q3 => by
      rw [e10, rd_wr, if_neg (by omega), e8, rd_wr, if_neg (by omega), e6, rd_wr, if_neg (by omega), e5, rd_wr, if_neg (by omega), e3, rd_wr, if_neg (by omega)]
    refine ⟨(v2, N10), hgo, rfl, RM_zA ?_ ?_ (fun k q1 q2 q3 => ?_), ⟨?_, fun k hk => absurd hk (Nat.not_lt_zero k)⟩, ?_, ?_, fun i j q1 q2 q3 => ?_, fun j q => ?_⟩
    · show rd N10 158 0 = nI n
      rw [e10, rd_wr, if_neg (by omega), e8, rd_wr, if_neg (by omega), e6, rd_wr, if_neg (by omega), e5, rd_wr, if_neg (by omega), e3, rd_wr, if_pos ⟨rfl, rfl⟩]
    · show rd N10 158 2 = f
      rw [e10, rd_wr, if_neg (by omega), e8, rd_wr, if_neg (by omega), e6, rd_wr, if_neg (by omega), e5, rd_wr, if_pos ⟨rfl, rfl⟩]
    · show rd N10 158 k = 0
      rw [hrd _ _ (by omega) (by omega) (by omega)]
      exact h1 k q3
    · show rd N10 157 2 = nI 0
      rw [e10, rd_wr, if_neg (by omega), e8, rd_wr, if_neg (by omega), e6, rd_wr, if_pos ⟨rfl, rfl⟩]
      rfl
    · show rd N10 159 0 = 0
      rw [e10, rd_wr, if_neg (by omega), e8, rd_wr, if_pos ⟨rfl, rfl⟩]
    · show rd N10 159 1 = 0
      rw [e10, rd_wr, if_pos ⟨rfl, rfl⟩]
    · show rd N10 i j = rd M i j
      rw [hrd _ _ (by omega) (by omega) (by omega)]
      exact hf.1 i j (by omega)
    · show rd N10 158 j = rd M 158 j
      rw [hrd _ _ (by omega) (by omega) (by omega)]
      exact hf.1 158 j (by omega)
  · obtain ⟨h1, hf⟩ := hN
    obtain ⟨N1, e1⟩ : ∃ N1, N1 = wr N (157 + 1) k 0 := ⟨_, rfl⟩
    have h6 : ¬ (262 : Int32) ≤ nI k := nI_ge (b := 262) hk (by omega)
    refine ⟨N1, ⟨fun j hj => ?_, frmR_tr hf (frmR_w e1 (by omega) (by omega))⟩, ?_⟩
    · rw [e1, rd_wr]
      by_cases e : j = k
      · rw [if_pos ⟨rfl, e⟩]
      · rw [if_neg (fun q => e q.2)]
        exact h1 j (by omega)
    · rw [f_X5_parts_L32, if_neg h6, ck_nI (by omega) (by omega), cl_nI (by omega), nm_to e1]
      unfold nm
      rw [nI_succ]
theorem x4_kept {M : Mem} (v2 : Int32) : ∃ M1, f_X4_parts_L38 0 v2 1000 M 0 = some (v2, M1) ∧ rd M1 150 0 = 0 ∧ rd M1 150 1 = 0 ∧ frm M M1 150 151 := by
  have key := loop_st (f_X4_parts_L38 0 v2) 2 (fun k N => (∀ j, j < k → rd N 150 j = 0) ∧ frm M N 150 151) (fun r => r.1 = v2 ∧ rd r.2 150 0 = 0 ∧ rd r.2 150 1 = 0 ∧ frm M r.2 150 151) (fun m N hN => ?_) (fun m k N hk hN => ?_) 1000 M (by omega) ⟨fun j hj => absurd hj (Nat.not_lt_zero j), frm_rf⟩
  · obtain ⟨⟨r1, r2⟩, k1, k2, k3⟩ := key
    have k2 : r1 = v2 := k2
    refine ⟨r2, ?_, k3⟩
    rw [← k2] at k1 ⊢
    exact k1
  · obtain ⟨h1, hf⟩ := hN
    refine ⟨(v2, N), ?_, rfl, h1 0 (by omega), h1 1 (by omega), hf⟩
    rw [f_X4_parts_L38, if_pos (show (2 : Int32) ≤ nI 2 from Int32.le_refl _)]
  · obtain ⟨h1, hf⟩ := hN
    obtain ⟨N1, e1⟩ : ∃ N1, N1 = wr N (0 + 150) k 0 := ⟨_, rfl⟩
    have h6 : ¬ (2 : Int32) ≤ nI k := nI_ge (b := 2) hk (by omega)
    refine ⟨N1, ⟨fun j hj => ?_, frm_tr hf (frm_w e1 (by omega) (by omega))⟩, ?_⟩
    · rw [e1, rd_wr]
      by_cases e : j = k
      · rw [if_pos ⟨rfl, e⟩]
      · rw [if_neg (fun q => e q.2)]
        exact h1 j (by omega)
    · rw [f_X4_parts_L38, if_neg h6, ck_nI (by omega) (by omega), cl_nI (by omega), nm_to e1]
      unfold nm
      rw [nI_succ]
theorem st_parts : ST_parts INV := by
  intro k M x1 hk hI
  have hI2 := INV_mono k M hI
  obtain ⟨S, B, c, m, hw, hfm, hb, himg⟩ := hI
  unfold f_X4_parts
  rw [x4_out, bd_s]
  by_cases h1 : 1 ≤ x1 ∧ x1 ≤ 6
  · have h1' : ¬ ¬ (1 ≤ x1 ∧ x1 ≤ 6) := fun q => q h1
    obtain ⟨n, a1, a2, rfl⟩ := rng1 (n := 6) (by omega) h1
    have z7 : rd M (0 + 1) 7 = sc S.1 3 := c.1.2.2.1 3 (by omega) (by omega)
    have z6 : rd M (0 + 1) 6 = sc S.1 2 := c.1.2.2.1 2 (by omega) (by omega)
    obtain ⟨M5, b1, b2, b3⟩ := x3_anew (M := M) (n := n)
    rw [z6] at b2
    obtain ⟨M8, e8⟩ : ∃ M8, M8 = wr M5 (0 + 151) 4 0 := ⟨_, rfl⟩
    have f8 : frm M5 M8 151 156 := frm_w e8 (by omega) (by omega)
    obtain ⟨M9, d1, d2, d3, d4⟩ := x4_kept (M := M8) (sc S.1 3)
    have c9 : CS M9 (zA n (sc S.1 2), []) := by
      refine ⟨RC_congr b2 (fun i j q1 q2 => (d4.1 i j (by omega)).trans (f8.1 i j (by omega))), ?_, fun k hk => absurd hk (Nat.not_lt_zero k)⟩
      rw [d4.1 _ _ (by omega), e8, rd_wr, if_pos ⟨rfl, rfl⟩]
      rfl
    have f9 : ∀ i j, 157 ≤ i → rd M9 i j = rd M i j := fun i j q => (d4.1 i j (by omega)).trans ((f8.1 i j (by omega)).trans (b3.1 i j (by omega)))
    have m9 := MS_fr m hw.1 (fun j _ => f9 158 j (by omega)) (fun j => f9 160 j (by omega)) (f9 157 2 (by omega))
    have y3 : rd M9 (157 + 1) (3 : Int32).toNatClampNeg = sc S.1 3 := m9.1.2.2.1 3 (by omega) (by omega)
    have y2 : rd M9 (157 + 1) (2 : Int32).toNatClampNeg = sc S.1 2 := m9.1.2.2.1 2 (by omega) (by omega)
    obtain ⟨M2, g1, g2, g3, g4, g5, g6, g7⟩ := x5_anew (M := M9) (n := n) (by omega) (sc S.1 3) (sc S.1 2)
    refine ⟨sc S.1 3, M9, M2, ?_, ?_, (zA n (sc S.1 2), []), [], ?_, ⟨g2, g3, WE_zA _⟩, ⟨WX_zA (by omega) _, Nat.zero_le _⟩, ?_, Nat.zero_le _, fun i hi => Or.inl ?_⟩
    · rw [decide_eq_false h1', if_pos (show bI false = 0 from rfl), z7, nm_to rfl, b1, bd_s]
      unfold f_X1_clear
      rw [nm_to e8, bd_s]
      exact d1
    · unfold f_X5_parts
      have hc3 : ∀ X : Option (Int32 × Mem), ck (3 : Int32) 1048 X = X := fun X => ck_nI (k := 3) (by omega) (by omega)
      have hc2 : ∀ X : Option (Int32 × Mem), ck (2 : Int32) 1048 X = X := fun X => ck_nI (k := 2) (by omega) (by omega)
      rw [x5_inL (nI n) 1 6 (by decide) (by decide), bd_s, decide_eq_true h1, if_neg (show ¬ bI true = 0 from by decide), hc3, y3, nm_to rfl, hc2, y2, nm_to rfl]
      exact g1
    · exact CS_fr c9 (fun i j q => g6 i j (by omega) (by omega) (by omega))
    · show frmOK (zA n (sc S.1 2))
      exact hfm
    · rcases (show i = 0 ∨ i = 1 by omega) with rfl | rfl
      · exact ⟨by rw [g6 _ _ (by omega) (by omega) (by omega)]; exact d2, g4⟩
      · exact ⟨by rw [g6 _ _ (by omega) (by omega) (by omega)]; exact d3, g5⟩
  · rw [decide_eq_true h1, if_neg (show ¬ bI true = 0 from by decide)]
    refine ⟨_, M, M, rfl, ?_, hI2⟩
    unfold f_X5_parts
    rw [x5_inL x1 1 6 (by decide) (by decide), bd_s, decide_eq_false h1, if_pos (show bI false = 0 from rfl)]
theorem st_start : INV 0 M0 := by
  have hz : ∀ i j, rd M0 i j = 0 := fun _ _ => rfl
  refine ⟨(zA 0 0, []), [], ⟨RC_zA (hz _ _) (hz _ _) (hz _ _) (fun _ _ _ => hz _ _) (fun _ _ => ⟨hz _ _, hz _ _, hz _ _, hz _ _⟩), hz _ _, fun k hk => absurd hk (Nat.not_lt_zero k)⟩, ⟨RM_zA (hz _ _) (hz _ _) (fun _ _ _ _ => hz _ _), ⟨hz _ _, fun k hk => absurd hk (Nat.not_lt_zero k)⟩, WE_zA _⟩, ⟨WX_zA (by omega) _, Nat.zero_le _⟩, Or.inl rfl, Nat.zero_le _, fun i hi => Or.inl ⟨hz _ _, hz _ _⟩⟩
