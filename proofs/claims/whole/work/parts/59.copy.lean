/-! copies: keep, goBack -/
theorem x2_copy {M : Mem} {d s : Nat} {L : List Ev} (h : RWt M s L) (hl : L.length ≤ 30) (hd : d + 4 ≤ s ∨ s + 4 ≤ d) : ∃ M1, f_X2_copyFrom M d s = some M1 ∧ RWt M1 d L ∧ frm M M1 d (d + 4) := by
  obtain ⟨M2, e2⟩ : ∃ M2, M2 = cpM M (s + 1) (d + 1) 0 0 L.length := ⟨_, rfl⟩
  obtain ⟨M4, e4⟩ : ∃ M4, M4 = cpM M2 (s + 2) (d + 2) 0 0 L.length := ⟨_, rfl⟩
  obtain ⟨M6, e6⟩ : ∃ M6, M6 = cpM M4 (s + 3) (d + 3) 0 0 L.length := ⟨_, rfl⟩
  obtain ⟨M7, e7⟩ : ∃ M7, M7 = wr M6 d 3 (nI L.length) := ⟨_, rfl⟩
  have r2 : rd M2 s 3 = nI L.length := by rw [e2, rd_cp, if_neg (by omega)]; exact h.1
  have r4 : rd M4 s 3 = nI L.length := by rw [e4, rd_cp, if_neg (by omega)]; exact r2
  have r6 : rd M6 s 3 = nI L.length := by rw [e6, rd_cp, if_neg (by omega)]; exact r4
  have hck : ∀ X : Option Mem, cpk (0 : Int32) (0 : Int32) (nI L.length) 30 30 X = X := fun X => cpk_ok (sp := 0) (dp := 0) (by omega) (by omega) (by omega) (by omega)
  refine ⟨M7, ?_, ⟨by rw [e7, rd_wr, if_pos ⟨rfl, rfl⟩], fun j hj => ?_⟩, ?_⟩
  · unfold f_X2_copyFrom
    rw [show (0 : Int32).toNatClampNeg = 0 from rfl, h.1, hck, cl_nI (by omega), nm_to e2, r2, hck, cl_nI (by omega), nm_to e4, r4, hck, cl_nI (by omega), nm_to e6, r6, nm_to e7]
  · obtain ⟨a1, a2, a3⟩ := h.2 j hj
    refine ⟨?_, ?_, ?_⟩
    · rw [e7, rd_wr, if_neg (by omega), e6, rd_cp, if_neg (by omega), e4, rd_cp, if_neg (by omega), e2, rd_cp, if_pos rfl, if_pos (by omega), show 0 + (j - 0) = j by omega]
      exact a1
    · rw [e7, rd_wr, if_neg (by omega), e6, rd_cp, if_neg (by omega), e4, rd_cp, if_pos rfl, if_pos (by omega), e2, rd_cp, if_neg (by omega), show 0 + (j - 0) = j by omega]
      exact a2
    · rw [e7, rd_wr, if_neg (by omega), e6, rd_cp, if_pos rfl, if_pos (by omega), e4, rd_cp, if_neg (by omega), e2, rd_cp, if_neg (by omega), show 0 + (j - 0) = j by omega]
      exact a3
  · rw [e7, e6, e4, e2]
    exact frm_tr (frm_cp (by omega) (by omega)) (frm_tr (frm_cp (by omega) (by omega)) (frm_tr (frm_cp (by omega) (by omega)) (frm_wr (by omega) (by omega))))
theorem x0_copy {M : Mem} {d s : Nat} {A : Ab} (h : RCh M s A) (hC : nC A ≤ 12) (hd : d + 8 ≤ s ∨ s + 8 ≤ d) : ∃ M1, f_X0_copyFrom M d s = some M1 ∧ RCh M1 d A ∧ frm M M1 d (d + 8) := by
  obtain ⟨M1, e1⟩ : ∃ M1, M1 = cpM M (s + 1) (d + 1) 0 0 12 := ⟨_, rfl⟩
  obtain ⟨M2, e2⟩ : ∃ M2, M2 = cpM M1 (s + 2) (d + 2) 0 0 12 := ⟨_, rfl⟩
  obtain ⟨M3, e3⟩ : ∃ M3, M3 = cpM M2 (s + 3) (d + 3) 0 0 12 := ⟨_, rfl⟩
  obtain ⟨M4, e4⟩ : ∃ M4, M4 = cpM M3 (s + 4) (d + 4) 0 0 12 := ⟨_, rfl⟩
  obtain ⟨M5, e5⟩ : ∃ M5, M5 = cpM M4 (s + 5) (d + 5) 0 0 12 := ⟨_, rfl⟩
  obtain ⟨M6, e6⟩ : ∃ M6, M6 = cpM M5 (s + 6) (d + 6) 0 0 12 := ⟨_, rfl⟩
  obtain ⟨M7, e7⟩ : ∃ M7, M7 = cpM M6 (s + 7) (d + 7) 0 0 12 := ⟨_, rfl⟩
  have r7 : rd M7 s 7 = nI (nC A) := by
    rw [e7, rd_cp, if_neg (by omega), e6, rd_cp, if_neg (by omega), e5, rd_cp, if_neg (by omega), e4, rd_cp, if_neg (by omega), e3, rd_cp, if_neg (by omega), e2, rd_cp, if_neg (by omega), e1, rd_cp, if_neg (by omega)]
    exact h.1
  obtain ⟨M8, e8⟩ : ∃ M8, M8 = wr M7 d 7 (nI (nC A)) := ⟨_, rfl⟩
  have hck : ∀ X : Option Mem, cpk (0 : Int32) (0 : Int32) (12 : Int32) 12 12 X = X := fun X => cpk_ok (sp := 0) (dp := 0) (n := 12) (by omega) (by omega) (by omega) (by omega)
  refine ⟨M8, ?_, ⟨by rw [e8, rd_wr, if_pos ⟨rfl, rfl⟩], fun c hc => ?_⟩, ?_⟩
  · unfold f_X0_copyFrom
    rw [show (0 : Int32).toNatClampNeg = 0 from rfl, show (12 : Int32).toNatClampNeg = 12 from rfl, hck, nm_to e1, hck, nm_to e2, hck, nm_to e3, hck, nm_to e4, hck, nm_to e5, hck, nm_to e6, hck, nm_to e7, r7, nm_to e8]
  · obtain ⟨b0, b1, b2, b3, b4, b5, b6⟩ := h.2 c hc
    have ez : 0 + (c - 0) = c := by omega
    refine ⟨?_, ?_, ?_, ?_, ?_, ?_, ?_⟩
    · rw [e8, rd_wr, if_neg (by omega), e7, rd_cp, if_neg (by omega), e6, rd_cp, if_neg (by omega), e5, rd_cp, if_neg (by omega), e4, rd_cp, if_neg (by omega), e3, rd_cp, if_neg (by omega), e2, rd_cp, if_neg (by omega), e1, rd_cp, if_pos rfl, if_pos (by omega), ez]
      exact b0
    · rw [e8, rd_wr, if_neg (by omega), e7, rd_cp, if_neg (by omega), e6, rd_cp, if_neg (by omega), e5, rd_cp, if_neg (by omega), e4, rd_cp, if_neg (by omega), e3, rd_cp, if_neg (by omega), e2, rd_cp, if_pos rfl, if_pos (by omega), e1, rd_cp, if_neg (by omega), ez]
      exact b1
    · rw [e8, rd_wr, if_neg (by omega), e7, rd_cp, if_neg (by omega), e6, rd_cp, if_neg (by omega), e5, rd_cp, if_neg (by omega), e4, rd_cp, if_neg (by omega), e3, rd_cp, if_pos rfl, if_pos (by omega), e2, rd_cp, if_neg (by omega), e1, rd_cp, if_neg (by omega), ez]
      exact b2
    · rw [e8, rd_wr, if_neg (by omega), e7, rd_cp, if_neg (by omega), e6, rd_cp, if_neg (by omega), e5, rd_cp, if_neg (by omega), e4, rd_cp, if_pos rfl, if_pos (by omega), e3, rd_cp, if_neg (by omega), e2, rd_cp, if_neg (by omega), e1, rd_cp, if_neg (by omega), ez]
      exact b3
    · rw [e8, rd_wr, if_neg (by omega), e7, rd_cp, if_neg (by omega), e6, rd_cp, if_neg (by omega), e5, rd_cp, if_pos rfl, if_pos (by omega), e4, rd_cp, if_neg (by omega), e3, rd_cp, if_neg (by omega), e2, rd_cp, if_neg (by omega), e1, rd_cp, if_neg (by omega), ez]
      exact b4
    · rw [e8, rd_wr, if_neg (by omega), e7, rd_cp, if_neg (by omega), e6, rd_cp, if_pos rfl, if_pos (by omega), e5, rd_cp, if_neg (by omega), e4, rd_cp, if_neg (by omega), e3, rd_cp, if_neg (by omega), e2, rd_cp, if_neg (by omega), e1, rd_cp, if_neg (by omega), ez]
      exact b5
    · rw [e8, rd_wr, if_neg (by omega), e7, rd_cp, if_pos rfl, if_pos (by omega), e6, rd_cp, if_neg (by omega), e5, rd_cp, if_neg (by omega), e4, rd_cp, if_neg (by omega), e3, rd_cp, if_neg (by omega), e2, rd_cp, if_neg (by omega), e1, rd_cp, if_neg (by omega), ez]
      exact b6
  · rw [e8, e7, e6, e5, e4, e3, e2, e1]
    exact frm_tr (frm_cp (by omega) (by omega)) (frm_tr (frm_cp (by omega) (by omega)) (frm_tr (frm_cp (by omega) (by omega)) (frm_tr (frm_cp (by omega) (by omega)) (frm_tr (frm_cp (by omega) (by omega)) (frm_tr (frm_cp (by omega) (by omega)) (frm_tr (frm_cp (by omega) (by omega)) (frm_wr (by omega) (by omega))))))))
theorem RCh_congr {M M1 : Mem} {c0 : Nat} {A : Ab} (h : RCh M c0 A) (hf : ∀ i j, c0 ≤ i → i < c0 + 8 → rd M1 i j = rd M i j) : RCh M1 c0 A := by
  refine ⟨by rw [hf _ _ (by omega) (by omega)]; exact h.1, fun c hc => ?_⟩
  rw [hf _ _ (by omega) (by omega), hf _ _ (by omega) (by omega), hf _ _ (by omega) (by omega), hf _ _ (by omega) (by omega), hf _ _ (by omega) (by omega), hf _ _ (by omega) (by omega), hf _ _ (by omega) (by omega)]
  exact h.2 c hc
theorem RWt_congr {M M1 : Mem} {e : Nat} {L : List Ev} (h : RWt M e L) (hf : ∀ i j, e ≤ i → i < e + 4 → rd M1 i j = rd M i j) : RWt M1 e L := by
  refine ⟨by rw [hf _ _ (by omega) (by omega)]; exact h.1, fun j hj => ?_⟩
  rw [hf _ _ (by omega) (by omega), hf _ _ (by omega) (by omega), hf _ _ (by omega) (by omega)]
  exact h.2 j hj
theorem x3_copy {M : Mem} {d s : Nat} {A : Ab} (h : RC M s A) (hs : WS A) (hd : d + 37 ≤ s ∨ s + 37 ≤ d) : ∃ M1, f_X3_copyFrom M d s = some M1 ∧ RC M1 d A ∧ frm M M1 d (d + 37) := by
  have hC := hs.2.1
  obtain ⟨M0', a1, a2, a3⟩ := x0_copy (d := d + 1) h.1 hC (by omega)
  unfold f_X3_copyFrom
  rw [a1, bd_s]
  refine loop_st (f_X3_copyFrom_L13 d s) 6 (fun k N => RCh N (d + 1) A ∧ (∀ p, p < k → RWt N (d + 9 + 4 + 4 * p) (ev A p) ∧ rd N (d + 10) p = pt A 0 p ∧ rd N (d + 11) p = pt A 1 p ∧ rd N (d + 12) p = pt A 2 p) ∧ frm M N d (d + 37)) _ (fun m N hN => ?_) (fun m k N hk hN => ?_) 1000 M0' (by omega) ⟨a2, fun p hp => absurd hp (Nat.not_lt_zero p), frm_wd a3 (by omega) (by omega)⟩
  · obtain ⟨h1, h2, hf⟩ := hN
    have g := RC_frm h hf (by omega)
    have s5 : rd N s 5 = nI (nP A) := g.2.1
    have s6 : rd N s 6 = sc A 2 := g.2.2.1 2 (by omega) (by omega)
    have s7 : rd N s 7 = sc A 3 := g.2.2.1 3 (by omega) (by omega)
    have s8 : rd N s 8 = sc A 4 := g.2.2.1 4 (by omega) (by omega)
    have s9 : rd N s 9 = sc A 5 := g.2.2.1 5 (by omega) (by omega)
    have s10 : rd N s 10 = sc A 6 := g.2.2.1 6 (by omega) (by omega)
    have s11 : rd N s 11 = nI (nH A) := g.2.2.2.1
    obtain ⟨N2, e2⟩ : ∃ N2, N2 = wr N d 5 (nI (nP A)) := ⟨_, rfl⟩
    obtain ⟨N3, e3⟩ : ∃ N3, N3 = wr N2 d 6 (sc A 2) := ⟨_, rfl⟩
    obtain ⟨N4, e4⟩ : ∃ N4, N4 = wr N3 d 7 (sc A 3) := ⟨_, rfl⟩
    obtain ⟨N5, e5⟩ : ∃ N5, N5 = wr N4 d 8 (sc A 4) := ⟨_, rfl⟩
    obtain ⟨N6, e6⟩ : ∃ N6, N6 = wr N5 d 9 (sc A 5) := ⟨_, rfl⟩
    obtain ⟨N7, e7⟩ : ∃ N7, N7 = wr N6 d 10 (sc A 6) := ⟨_, rfl⟩
    obtain ⟨N8, e8⟩ : ∃ N8, N8 = wr N7 d 11 (nI (nH A)) := ⟨_, rfl⟩
    have t2 : rd N2 s 6 = sc A 2 := by rw [e2, rd_wr, if_neg (by omega)]; exact s6
    have t3 : rd N3 s 7 = sc A 3 := by rw [e3, rd_wr, if_neg (by omega), e2, rd_wr, if_neg (by omega)]; exact s7
    have t4 : rd N4 s 8 = sc A 4 := by rw [e4, rd_wr, if_neg (by omega), e3, rd_wr, if_neg (by omega), e2, rd_wr, if_neg (by omega)]; exact s8
    have t5 : rd N5 s 9 = sc A 5 := by rw [e5, rd_wr, if_neg (by omega), e4, rd_wr, if_neg (by omega), e3, rd_wr, if_neg (by omega), e2, rd_wr, if_neg (by omega)]; exact s9
    have t6 : rd N6 s 10 = sc A 6 := by rw [e6, rd_wr, if_neg (by omega), e5, rd_wr, if_neg (by omega), e4, rd_wr, if_neg (by omega), e3, rd_wr, if_neg (by omega), e2, rd_wr, if_neg (by omega)]; exact s10
    have t7 : rd N7 s 11 = nI (nH A) := by rw [e7, rd_wr, if_neg (by omega), e6, rd_wr, if_neg (by omega), e5, rd_wr, if_neg (by omega), e4, rd_wr, if_neg (by omega), e3, rd_wr, if_neg (by omega), e2, rd_wr, if_neg (by omega)]; exact s11
    have hrd : ∀ i j, i ≠ d → rd N8 i j = rd N i j := fun i j q => by
      rw [e8, rd_wr, if_neg (by omega), e7, rd_wr, if_neg (by omega), e6, rd_wr, if_neg (by omega), e5, rd_wr, if_neg (by omega), e4, rd_wr, if_neg (by omega), e3, rd_wr, if_neg (by omega), e2, rd_wr, if_neg (by omega)]
    refine ⟨N8, ?_, ⟨RCh_congr h1 (fun i j q1 q2 => hrd i j (by omega)), ?_, fun k q1 q2 => ?_, ?_, fun k p q1 q2 => ?_, fun p hp => RWt_congr (h2 p hp).1 (fun i j q1 q2 => hrd i j (by omega))⟩, frm_tr hf (frm_tr (frm_w e2 (by omega) (by omega)) (frm_tr (frm_w e3 (by omega) (by omega)) (frm_tr (frm_w e4 (by omega) (by omega)) (frm_tr (frm_w e5 (by omega) (by omega)) (frm_tr (frm_w e6 (by omega) (by omega)) (frm_tr (frm_w e7 (by omega) (by omega)) (frm_w e8 (by omega) (by omega))))))))⟩
    · rw [f_X3_copyFrom_L13, if_pos (show (6 : Int32) ≤ nI 6 from Int32.le_refl _), s5, nm_to e2, t2, nm_to e3, t3, nm_to e4, t4, nm_to e5, t5, nm_to e6, t6, nm_to e7, t7, nm_to e8]
    · rw [e8, rd_wr, if_neg (by omega), e7, rd_wr, if_neg (by omega), e6, rd_wr, if_neg (by omega), e5, rd_wr, if_neg (by omega), e4, rd_wr, if_neg (by omega), e3, rd_wr, if_neg (by omega), e2, rd_wr, if_pos ⟨rfl, rfl⟩]
    · rcases (show k = 2 ∨ k = 3 ∨ k = 4 ∨ k = 5 ∨ k = 6 by omega) with rfl | rfl | rfl | rfl | rfl
      · rw [e8, rd_wr, if_neg (by omega), e7, rd_wr, if_neg (by omega), e6, rd_wr, if_neg (by omega), e5, rd_wr, if_neg (by omega), e4, rd_wr, if_neg (by omega), e3, rd_wr, if_pos ⟨rfl, rfl⟩]
      · rw [e8, rd_wr, if_neg (by omega), e7, rd_wr, if_neg (by omega), e6, rd_wr, if_neg (by omega), e5, rd_wr, if_neg (by omega), e4, rd_wr, if_pos ⟨rfl, rfl⟩]
      · rw [e8, rd_wr, if_neg (by omega), e7, rd_wr, if_neg (by omega), e6, rd_wr, if_neg (by omega), e5, rd_wr, if_pos ⟨rfl, rfl⟩]
      · rw [e8, rd_wr, if_neg (by omega), e7, rd_wr, if_neg (by omega), e6, rd_wr, if_pos ⟨rfl, rfl⟩]
      · rw [e8, rd_wr, if_neg (by omega), e7, rd_wr, if_pos ⟨rfl, rfl⟩]
    · rw [e8, rd_wr, if_pos ⟨rfl, rfl⟩]
    · rw [hrd _ _ (by omega)]
      obtain ⟨-, b0, b1, b2⟩ := h2 p q2
      rcases (show k = 0 ∨ k = 1 ∨ k = 2 by omega) with rfl | rfl | rfl
      · exact b0
      · exact b1
      · exact b2
  · obtain ⟨h1, h2, hf⟩ := hN
    have g := RC_frm h hf (by omega)
    obtain ⟨N1, c1, c2, c3⟩ := x2_copy (d := d + 9 + 4 + 4 * k) (g.2.2.2.2.2 k hk) (hs.2.2.2 k) (by omega)
    have s10 : rd N (s + 10) k = pt A 0 k := g.2.2.2.2.1 0 k (by omega) hk
    have s11 : rd N (s + 11) k = pt A 1 k := g.2.2.2.2.1 1 k (by omega) hk
    have s12 : rd N (s + 12) k = pt A 2 k := g.2.2.2.2.1 2 k (by omega) hk
    have t1 : rd N1 (s + 10) k = pt A 0 k := by rw [c3.1 _ _ (by omega)]; exact s10
    obtain ⟨N2, e2⟩ : ∃ N2, N2 = wr N1 (d + 10) k (pt A 0 k) := ⟨_, rfl⟩
    have t2 : rd N2 (s + 11) k = pt A 1 k := by rw [e2, rd_wr, if_neg (by omega), c3.1 _ _ (by omega)]; exact s11
    obtain ⟨N3, e3⟩ : ∃ N3, N3 = wr N2 (d + 11) k (pt A 1 k) := ⟨_, rfl⟩
    have t3 : rd N3 (s + 12) k = pt A 2 k := by rw [e3, rd_wr, if_neg (by omega), e2, rd_wr, if_neg (by omega), c3.1 _ _ (by omega)]; exact s12
    obtain ⟨N4, e4⟩ : ∃ N4, N4 = wr N3 (d + 12) k (pt A 2 k) := ⟨_, rfl⟩
    have h6 : ¬ (6 : Int32) ≤ nI k := nI_ge (b := 6) hk (by omega)
    have hrd : ∀ i j, (i ≠ d + 10 ∧ i ≠ d + 11 ∧ i ≠ d + 12) ∨ j ≠ k → rd N4 i j = rd N1 i j := fun i j q => by
      rw [e4, rd_wr, if_neg (by omega), e3, rd_wr, if_neg (by omega), e2, rd_wr, if_neg (by omega)]
    refine ⟨N4, ⟨RCh_congr h1 (fun i j q1 q2 => (hrd i j (by omega)).trans (c3.1 i j (by omega))), fun p hp => ?_, frm_tr hf (frm_tr (frm_wd c3 (by omega) (by omega)) (frm_tr (frm_w e2 (by omega) (by omega)) (frm_tr (frm_w e3 (by omega) (by omega)) (frm_w e4 (by omega) (by omega)))))⟩, ?_⟩
    · by_cases e : p = k
      · subst e
        refine ⟨RWt_congr c2 (fun i j q1 q2 => hrd i j (by omega)), ?_, ?_, ?_⟩
        · rw [e4, rd_wr, if_neg (by omega), e3, rd_wr, if_neg (by omega), e2, rd_wr, if_pos ⟨rfl, rfl⟩]
        · rw [e4, rd_wr, if_neg (by omega), e3, rd_wr, if_pos ⟨rfl, rfl⟩]
        · rw [e4, rd_wr, if_pos ⟨rfl, rfl⟩]
      · obtain ⟨b, b0, b1, b2⟩ := h2 p (by omega)
        refine ⟨RWt_congr b (fun i j q1 q2 => (hrd i j (by omega)).trans (c3.1 i j (by omega))), ?_, ?_, ?_⟩
        · rw [hrd _ _ (by omega), c3.1 _ _ (by omega)]; exact b0
        · rw [hrd _ _ (by omega), c3.1 _ _ (by omega)]; exact b1
        · rw [hrd _ _ (by omega), c3.1 _ _ (by omega)]; exact b2
    · rw [f_X3_copyFrom_L13, if_neg h6, ck_nI (by omega) (by omega), ck_nI (by omega) (by omega), cl_nI (by omega), c1, bd_s, ck_nI (by omega) (by omega), ck_nI (by omega) (by omega), t1, nm_to e2, ck_nI (by omega) (by omega), ck_nI (by omega) (by omega), t2, nm_to e3, ck_nI (by omega) (by omega), ck_nI (by omega) (by omega), t3, nm_to e4]
      unfold nm
      rw [nI_succ]
theorem RM_shift {M M1 : Mem} {r r1 : Nat} {A : Ab} {B : Bg} (h : RM M r A B) (hC : nC A ≤ 12) (hl : B.length ≤ 30) (hf : ∀ k, k < 262 → rd M1 158 (r1 + k) = rd M 158 (r + k)) : RM M1 r1 A B := by
  have hg : ∀ a b, a + r = b + r1 → r ≤ b → b < r + 262 → rd M1 158 a = rd M 158 b := fun a b q1 q2 q3 => by
    have := hf (b - r) (by omega)
    rw [show r1 + (b - r) = a by omega, show r + (b - r) = b by omega] at this
    exact this
  obtain ⟨⟨a1, a2⟩, a3, a4, a5, a6, a7, a8, a9⟩ := h
  refine ⟨⟨(hg _ _ (by omega) (by omega) (by omega)).trans a1, fun c k h1 h2 => (hg _ (r + 28 + 7 * c + k) (by omega) (by omega) (by omega)).trans (a2 c k h1 h2)⟩, (hg _ (r + 0) (by omega) (by omega) (by omega)).trans a3, fun k h1 h2 => (hg _ (r + k) (by omega) (by omega) (by omega)).trans (a4 k h1 h2), (hg _ (r + 7) (by omega) (by omega) (by omega)).trans a5, (hg _ (r + 8) (by omega) (by omega) (by omega)).trans a6, fun p hp => ?_, (hg _ (r + 9) (by omega) (by omega) (by omega)).trans a8, fun e he => ?_⟩
  · obtain ⟨b0, b1, b2⟩ := a7 p hp
    exact ⟨(hg _ (r + 10 + p) (by omega) (by omega) (by omega)).trans b0, (hg _ (r + 16 + p) (by omega) (by omega) (by omega)).trans b1, (hg _ (r + 22 + p) (by omega) (by omega) (by omega)).trans b2⟩
  · obtain ⟨b0, b1, b2, b3, b4⟩ := a9 e he
    exact ⟨(hg _ (r + 112 + 5 * e + 0) (by omega) (by omega) (by omega)).trans b0, (hg _ (r + 112 + 5 * e + 1) (by omega) (by omega) (by omega)).trans b1, (hg _ (r + 112 + 5 * e + 2) (by omega) (by omega) (by omega)).trans b2, (hg _ (r + 112 + 5 * e + 3) (by omega) (by omega) (by omega)).trans b3, (hg _ (r + 112 + 5 * e + 4) (by omega) (by omega) (by omega)).trans b4⟩
theorem x5_copy {M : Mem} {r r1 : Nat} (hr : r ≤ 786) (hr1 : r1 ≤ 786) (hd : r + 262 ≤ r1 ∨ r1 + 262 ≤ r) : ∃ M1, f_X5_copy M 157 (nI r) (nI r1) = some M1 ∧ (∀ k, k < 262 → rd M1 158 (r1 + k) = rd M 158 (r + k)) ∧ frmR M M1 r1 := by
  unfold f_X5_copy
  refine loop_st (f_X5_copy_L2 157 (nI r) (nI r1)) 262 (fun k N => (∀ j, j < k → rd N 158 (r1 + j) = rd M 158 (r + j)) ∧ frmR M N r1) _ (fun m N hN => ?_) (fun m k N hk hN => ?_) 1000 M (by omega) ⟨fun j hj => absurd hj (Nat.not_lt_zero j), frmR_rf⟩
  · obtain ⟨h1, hf⟩ := hN
    refine ⟨N, ?_, h1, hf⟩
    rw [f_X5_copy_L2, if_pos (show (262 : Int32) ≤ nI 262 from Int32.le_refl _)]
  · obtain ⟨h1, hf⟩ := hN
    have s : rd N (157 + 1) (r + k) = rd M 158 (r + k) := hf.1 158 (r + k) (by omega)
    obtain ⟨N1, e1⟩ : ∃ N1, N1 = wr N (157 + 1) (r1 + k) (rd M 158 (r + k)) := ⟨_, rfl⟩
    have h6 : ¬ (262 : Int32) ≤ nI k := nI_ge (b := 262) hk (by omega)
    refine ⟨N1, ⟨fun j hj => ?_, frmR_tr hf (frmR_w e1 (by omega) (by omega))⟩, ?_⟩
    · rw [e1, rd_wr]
      by_cases e : j = k
      · rw [if_pos ⟨rfl, by omega⟩, e]
      · rw [if_neg (fun q => e (by omega))]
        exact h1 j (by omega)
    · rw [f_X5_copy_L2, if_neg h6, nI_add, nI_add, ck_nI (by omega) (by omega), ck_nI (by omega) (by omega), cl_nI (by omega), cl_nI (by omega), s, nm_to e1]
      unfold nm
      rw [nI_succ]
theorem x4_noIm {x : Int32} : f_X4_isNoImage x = some (bI (decide (¬ (0 ≤ x ∧ x ≤ 1)))) := by
  unfold f_X4_isNoImage
  have e2 : (2 : Int32).toInt = 2 := by decide
  have e1 : (1 : Int32).toInt = 1 := by decide
  have e0 : (0 : Int32).toInt = 0 := by decide
  by_cases h1 : x < 0
  · have h9 : ¬ (0 ≤ x ∧ x ≤ 1) := fun q => by
      have q1 := q.1
      rw [Int32.le_iff_toInt_le] at q1
      rw [Int32.lt_iff_toInt_lt] at h1
      omega
    rw [if_pos h1, decide_eq_true h9]
    rfl
  · rw [if_neg h1]
    by_cases h2 : x < 2
    · have h9 : ¬ ¬ (0 ≤ x ∧ x ≤ 1) := fun q => q ⟨by
        rw [Int32.le_iff_toInt_le]
        rw [Int32.lt_iff_toInt_lt] at h1
        omega, by
        rw [Int32.le_iff_toInt_le]
        rw [Int32.lt_iff_toInt_lt] at h2
        omega⟩
      rw [if_pos h2, decide_eq_false h9]
      rfl
    · have h9 : ¬ (0 ≤ x ∧ x ≤ 1) := fun q => by
        have q1 := q.2
        rw [Int32.le_iff_toInt_le] at q1
        rw [Int32.lt_iff_toInt_lt] at h2
        omega
      rw [if_neg h2, decide_eq_true h9]
      rfl
theorem st_keep : ST_keep INV := by
  intro k M x1 hk hI
  have hI2 := INV_mono k M hI
  obtain ⟨S, B, c, m, hw, hfm, hb, himg⟩ := hI
  have hC := hw.1.1.2.1
  unfold f_X4_keep
  rw [x4_noIm, bd_s]
  rcases out_in (n := 1) (by omega) x1 with ⟨h1, h2⟩ | ⟨i, h1, h2, h3⟩
  · have h1 : ¬ (0 ≤ x1 ∧ x1 ≤ 1) := h1
    rw [decide_eq_true h1, if_neg (show ¬ bI true = 0 from by decide)]
    refine ⟨_, M, M, rfl, ?_, hI2⟩
    unfold f_X5_keep
    rw [x5_inL x1 0 1 (by decide) (by decide), bd_s, decide_eq_false h1, if_pos (show bI false = 0 from rfl)]
  · have h3 : 0 ≤ x1 ∧ x1 ≤ 1 := h3
    have h4 : ¬ ¬ (0 ≤ x1 ∧ x1 ≤ 1) := fun q => q h3
    have i524 : (524 : Int32) + (262 : Int32) * nI i = nI (524 + 262 * i) := by
      rw [show (262 : Int32) = nI 262 from rfl, pk_mul]
      exact nI_add 524 _
    obtain ⟨M5, a1, a2, a3⟩ := x3_copy (d := 0 + 75 + 1 + 37 * i) c.1 hw.1.1 (by omega)
    obtain ⟨M9, e9⟩ : ∃ M9, M9 = wr M5 (0 + 150) i 1 := ⟨_, rfl⟩
    have f9 : ∀ p q, p < 0 + 75 + 1 + 37 * i ∨ (0 + 75 + 1 + 37 * i + 37 ≤ p ∧ (p ≠ 150 ∨ q ≠ i)) → rd M9 p q = rd M p q := fun p q z => by
      rw [e9, rd_wr, if_neg (by omega)]
      exact a3.1 p q (by omega)
    have m9 := MS_fr m hw.1 (fun j _ => f9 158 j (by omega)) (fun j => f9 160 j (by omega)) (f9 157 2 (by omega))
    obtain ⟨M4, b1, b2, b3⟩ := x5_copy (M := M9) (r := 0) (r1 := 524 + 262 * i) (by omega) (by omega) (by omega)
    have b1 : f_X5_copy M9 157 0 (nI (524 + 262 * i)) = some M4 := b1
    obtain ⟨M8, e8⟩ : ∃ M8, M8 = wr M4 (157 + 2) i 1 := ⟨_, rfl⟩
    have g4 : RM M4 (524 + 262 * i) S.1 B := RM_shift m9.1 hC m.2.2.2.1 b2
    have f8 : ∀ p q, (p ≠ 158 ∨ q < 524 + 262 * i ∨ 524 + 262 * i + 262 ≤ q) → (p ≠ 159 ∨ q ≠ i) → rd M8 p q = rd M9 p q := fun p q z1 z2 => by
      rw [e8, rd_wr, if_neg (by omega)]
      exact b3.1 p q (by omega)
    refine ⟨1, M9, M8, ?_, ?_, S, B, ?_, ?_, hw, hfm, by omega, fun i' hi' => ?_⟩
    · rw [decide_eq_false h4, if_pos (show bI false = 0 from rfl), h2, ck_nI (by omega) (by omega), cl_nI (by omega), a1, bd_s, ck_nI (by omega) (by omega), nm_to e9]
    · unfold f_X5_keep
      rw [x5_inL x1 0 1 (by decide) (by decide), bd_s, decide_eq_true h3, if_neg (show ¬ bI true = 0 from by decide), h2, i524, b1, bd_s, ck_nI (by omega) (by omega), cl_nI (by omega), nm_to e8]
    · exact CS_fr c (fun p q z => (f8 p q (by omega) (by omega)).trans (f9 p q (by omega)))
    · exact MS_fr m9 hw.1 (fun j z => f8 158 j (by omega) (by omega)) (fun j => f8 160 j (by omega) (by omega)) (f8 157 2 (by omega) (by omega))
    · by_cases e : i' = i
      · subst e
        refine Or.inr ⟨?_, ?_, S.1, B, ?_, ?_, m.2.2, hw.1, hfm, by omega⟩
        · rw [f8 _ _ (by omega) (by omega), e9, rd_wr, if_pos ⟨rfl, rfl⟩]
        · rw [e8, rd_wr, if_pos ⟨rfl, rfl⟩]
        · refine RC_congr (M := M5) ?_ (fun p q z1 z2 => ?_)
          · exact a2
          · rw [f8 _ _ (by omega) (by omega), e9, rd_wr, if_neg (by omega)]
        · exact RM_congr g4 hC m.2.2.2.1 (fun j z1 z2 => by rw [e8, rd_wr, if_neg (by omega)])
      · rcases himg i' hi' with ⟨q1, q2⟩ | ⟨q1, q2, A, B', q3, q4, q5, q6, q7, q8⟩
        · exact Or.inl ⟨by rw [f8 _ _ (by omega) (by omega), f9 _ _ (by omega)]; exact q1, by rw [f8 _ _ (by omega) (by omega), f9 _ _ (by omega)]; exact q2⟩
        · exact Or.inr ⟨by rw [f8 _ _ (by omega) (by omega), f9 _ _ (by omega)]; exact q1, by rw [f8 _ _ (by omega) (by omega), f9 _ _ (by omega)]; exact q2, A, B', RC_congr q3 (fun p q z1 z2 => (f8 p q (by omega) (by omega)).trans (f9 p q (by omega))), RM_congr q4 q6.1.2.1 q5.2.1 (fun j z1 z2 => (f8 158 j (by omega) (by omega)).trans (f9 158 j (by omega))), q5, q6, q7, by omega⟩
theorem st_goBack : ST_goBack INV := by
  intro k M x1 hk hI
  have hI2 := INV_mono k M hI
  obtain ⟨S, B, c, m, hw, hfm, hb, himg⟩ := hI
  unfold f_X4_goBack
  rw [x4_noIm, bd_s]
  rcases out_in (n := 1) (by omega) x1 with ⟨h1, h2⟩ | ⟨i, h1, h2, h3⟩
  · have h1 : ¬ (0 ≤ x1 ∧ x1 ≤ 1) := h1
    rw [decide_eq_true h1, if_neg (show ¬ bI true = 0 from by decide)]
    refine ⟨_, M, M, rfl, ?_, hI2⟩
    unfold f_X5_goBack
    rw [x5_inL x1 0 1 (by decide) (by decide), bd_s, decide_eq_false h1, if_pos (show bI false = 0 from rfl)]
  · have h3 : 0 ≤ x1 ∧ x1 ≤ 1 := h3
    have h4 : ¬ ¬ (0 ≤ x1 ∧ x1 ≤ 1) := fun q => q h3
    rw [decide_eq_false h4, if_pos (show bI false = 0 from rfl), h2, ck_nI (by omega) (by omega), ck_nI (by omega) (by omega), cl_nI (by omega)]
    rw [h2] at h3
    rcases himg i (by omega) with ⟨q1, q2⟩ | ⟨q1, q2, A, B', q3, q4, q5, q6, q7, q8⟩
    · have q1 : rd M (0 + 150) i = 0 := q1
      have q2 : rd M (157 + 2) i = 0 := q2
      rw [q1, if_pos (show (0 : Int32) = 0 from rfl)]
      refine ⟨_, M, M, rfl, ?_, hI2⟩
      unfold f_X5_goBack
      rw [x5_inL (nI i) 0 1 (by decide) (by decide), bd_s, decide_eq_true h3, if_neg (show ¬ bI true = 0 from by decide), ck_nI (by omega) (by omega), cl_nI (by omega), q2, if_pos (show (0 : Int32) = 0 from rfl)]
    · have q1 : rd M (0 + 150) i = 1 := q1
      have i524 : (524 : Int32) + (262 : Int32) * nI i = nI (524 + 262 * i) := by
        rw [show (262 : Int32) = nI 262 from rfl, pk_mul]
        exact nI_add 524 _
      have q3 : RC M (0 + 75 + 1 + 37 * i) A := q3
      obtain ⟨M1, a1, a2, a3⟩ := x3_copy (d := 0 + 1) q3 q6.1 (by omega)
      have f1 : frC M M1 := frC_w a3
      have m1 := MS_frC m hw.1 f1
      have q4' : RM M1 (524 + 262 * i) A B' := RM_congr q4 q6.1.2.1 q5.2.1 (fun j z1 z2 => f1.1 158 j (by omega))
      have y2 : rd M1 (157 + 2) i = 1 := (f1.1 159 i (by omega)).trans q2
      obtain ⟨M2, b1, b2, b3⟩ := x5_copy (M := M1) (r := 524 + 262 * i) (r1 := 0) (by omega) (by omega) (by omega)
      have b1 : f_X5_copy M1 157 (nI (524 + 262 * i)) 0 = some M2 := b1
      have g2 : RM M2 0 A B' := RM_shift q4' q6.1.2.1 q5.2.1 b2
      refine ⟨1, M1, M2, ?_, ?_, INV_fin (S := (A, S.2)) himg ⟨a2, LC_congr c.2 (fun p q z1 z2 => a3.1 p q (by omega))⟩ f1 ⟨g2, LM_congr m1.2.1 (fun p q z => b3.1 p q (by omega)), q5⟩ (frD_r b3) ⟨q6, hw.2⟩ q7 (by show nA A ≤ _; omega)⟩
      · rw [q1, if_neg (show ¬ (1 : Int32) = 0 from by decide), a1, bd_s]
      · unfold f_X5_goBack
        rw [x5_inL (nI i) 0 1 (by decide) (by decide), bd_s, decide_eq_true h3, if_neg (show ¬ bI true = 0 from by decide), ck_nI (by omega) (by omega), cl_nI (by omega), y2, if_neg (show ¬ (1 : Int32) = 0 from by decide), i524, b1, bd_s]
