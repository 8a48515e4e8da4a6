/-! a ROUND: the model -/
theorem x5_78 {M : Mem} {A : Ab} {B : Bg} (h : RM M 0 A B) (hC : nC A ≤ 12) {c : Nat} (hc : c < 2147483648) : ∃ M1, f_X5_rounds_L78 M 157 (nI c) = some (bI (decide (0 < c)), M1) ∧ RM M1 0 (stS A 5 (sc A 5 + 1)) B ∧ frmR M M1 0 := by
  have z5 : rd M (157 + 1) (5 : Int32).toNatClampNeg = sc A 5 := h.2.2.1 5 (by omega) (by omega)
  obtain ⟨M1, e1⟩ : ∃ M1, M1 = wr M (157 + 1) (5 : Int32).toNatClampNeg (sc A 5 + 1) := ⟨_, rfl⟩
  have g1 : RM M1 0 (stS A 5 (sc A 5 + 1)) B := by
    rw [e1, show (5 : Int32).toNatClampNeg = 0 + 5 from rfl]
    exact RM_S (k := 5) h hC (by omega) (by omega)
  refine ⟨M1, ?_, g1, frmR_w e1 (by show 0 ≤ _; omega) (by show 5 < 262; omega)⟩
  unfold f_X5_rounds_L78
  rw [show (5 : Int32) = nI 5 from rfl, ck_lit 5 (by omega), ck_lit 5 (by omega), show (nI 5).toNatClampNeg = (5 : Int32).toNatClampNeg from rfl, z5, nm_to e1]
  by_cases q : c = 0
  · rw [q, if_pos (show nI 0 ≤ 0 from Int32.le_refl _), decide_eq_false (by omega)]
    rfl
  · rw [if_neg (nI_nle (by omega) (by omega)), decide_eq_true (by omega)]
    rfl
theorem x5_emLoop {M : Mem} {A : Ab} {B : Bg} (h : RM M 0 A B) (hX : WX A) (hE : WE A B) (hfm : sc A 2 = 0 ∨ sc A 2 = 1 ∨ sc A 2 = 2) {c0 : Nat} (hc0 : c0 ≤ 6) : ∃ M1, f_X5_rounds_L42 M 157 (nI c0) = some (bI (decide (0 < c0 + (emH A).2)), M1) ∧ RM M1 0 (rndA A) B ∧ frmR M M1 0 := by
  have hP := hX.1.1
  have hC := hX.1.2.1
  unfold f_X5_rounds_L42
  by_cases cf : sc A 2 = 1
  · have e : emH A = (A, 0) := by unfold emH; rw [if_pos cf]
    have z0 : rd M (157 + 1) (0 : Int32).toNatClampNeg = nI (nP A) := h.2.1
    have z2 : rd M (157 + 1) (2 : Int32).toNatClampNeg = sc A 2 := h.2.2.1 2 (by omega) (by omega)
    obtain ⟨M1, a1, a2, a3⟩ := x5_78 h hC (c := c0) (by omega)
    refine ⟨M1, ?_, by unfold rndA; rw [e]; exact a2, a3⟩
    rw [e]
    show f_X5_rounds_L44 157 (999 + 1) M (nI c0) (nI 0) = _
    rw [f_X5_rounds_L44, show (0 : Int32) = nI 0 from rfl, ck_lit 0 (by omega), show (nI 0).toNatClampNeg = (0 : Int32).toNatClampNeg from rfl, z0]
    by_cases q : nI (nP A) ≤ nI 0
    · rw [if_pos q]; exact a1
    · rw [if_neg q, show (2 : Int32) = nI 2 from rfl, ck_lit 2 (by omega), show (nI 2).toNatClampNeg = (2 : Int32).toNatClampNeg from rfl, z2, if_pos cf]
      exact a1
  · have e : emH A = em2 A (nP A) := by unfold emH; rw [if_neg cf]
    have hfm2 : sc A 2 = 0 ∨ sc A 2 = 2 := by
      rcases hfm with q | q | q
      · exact Or.inl q
      · exact absurd q cf
      · exact Or.inr q
    have key := loop_st (fun n (s : Mem × Int32) k => f_X5_rounds_L44 157 n s.1 s.2 k) (nP A) (fun k s => RM s.1 0 (em2 A k).1 B ∧ s.2 = nI (c0 + (em2 A k).2) ∧ frmR M s.1 0) (fun r => r.1 = bI (decide (0 < c0 + (emH A).2)) ∧ RM r.2 0 (rndA A) B ∧ frmR M r.2 0) (fun n s hN => ?_) (fun n k s hk hN => ?_) 1000 (M, nI c0) (by omega) ⟨h, rfl, frmR_rf⟩
    · obtain ⟨⟨r1, r2⟩, k1, k2, k3, k4⟩ := key
      have k2 : r1 = bI (decide (0 < c0 + (emH A).2)) := k2
      refine ⟨r2, ?_, k3, k4⟩
      rw [← k2]
      exact k1
    · obtain ⟨N, v1⟩ := s
      obtain ⟨g, hv, hf⟩ := hN
      have g : RM N 0 (em2 A (nP A)).1 B := g
      have hv : v1 = nI (c0 + (em2 A (nP A)).2) := hv
      have hf : frmR M N 0 := hf
      obtain ⟨i1, i2, i3, i4, i5, i6, i7, i8, i9⟩ := em2_ok hX (nP A)
      have z0 : rd N (157 + 1) (0 : Int32).toNatClampNeg = nI (nP A) := by rw [← i2]; exact g.2.1
      obtain ⟨M1, a1, a2, a3⟩ := x5_78 g (by omega) (c := c0 + (em2 A (nP A)).2) (by omega)
      refine ⟨(_, M1), ?_, rfl, by unfold rndA; rw [e]; exact a2, frmR_tr hf a3⟩
      show f_X5_rounds_L44 157 (n + 1) N v1 (nI (nP A)) = _
      rw [f_X5_rounds_L44, show (0 : Int32) = nI 0 from rfl, ck_lit 0 (by omega), show (nI 0).toNatClampNeg = (0 : Int32).toNatClampNeg from rfl, z0, if_pos (nI_le (Nat.le_refl _) (by omega)), hv, e]
      exact a1
    · obtain ⟨N, v1⟩ := s
      obtain ⟨g, hv, hf⟩ := hN
      have g : RM N 0 (em2 A k).1 B := g
      have hv : v1 = nI (c0 + (em2 A k).2) := hv
      have hf : frmR M N 0 := hf
      obtain ⟨i1, i2, i3, i4, i5, i6, i7, i8, i9⟩ := em2_ok hX k
      have z0 : rd N (157 + 1) (0 : Int32).toNatClampNeg = nI (nP A) := by rw [← i2]; exact g.2.1
      have z2 : rd N (157 + 1) (2 : Int32).toNatClampNeg = sc A 2 := by rw [← i8 2 (by omega)]; exact g.2.2.1 2 (by omega) (by omega)
      obtain ⟨N1, a1, a2, a3⟩ := x5_empties g i1 (WE_ev hE i9 i2) (by rw [i8 2 (by omega)]; exact hfm2) (p := k) (by omega)
      refine ⟨(N1, nI (c0 + (em2 A (k + 1)).2)), ⟨a2, rfl, frmR_tr hf a3⟩, ?_⟩
      show f_X5_rounds_L44 157 (n + 1) N v1 (nI k) = f_X5_rounds_L44 157 n N1 (nI (c0 + (em2 A (k + 1)).2)) (nI (k + 1))
      rw [f_X5_rounds_L44, show (0 : Int32) = nI 0 from rfl, ck_lit 0 (by omega), show (nI 0).toNatClampNeg = (0 : Int32).toNatClampNeg from rfl, z0, if_neg (nI_ge hk (by omega)), show (2 : Int32) = nI 2 from rfl, ck_lit 2 (by omega), show (nI 2).toNatClampNeg = (2 : Int32).toNatClampNeg from rfl, z2, if_neg cf, a1]
      have e3 : c0 + (em2 A (k + 1)).2 = c0 + (em2 A k).2 + (emA (em2 A k).1 k).2 := (Nat.add_assoc _ _ _).symm
      rw [e3, ← nI_add, ← hv, nI_succ]
      rfl
theorem x5_round {M : Mem} {S : AR} {B : Bg} (h : MS M S B) (hw : WR S) (hb : nA S.1 + 6 ≤ 2147483647) (hfm : sc S.1 2 = 0 ∨ sc S.1 2 = 1 ∨ sc S.1 2 = 2) : ∃ M1 B1, f_X5_rounds M 157 = some (bI (decide (0 < goesN S)), M1) ∧ MS M1 (rnd S) B1 ∧ frD M M1 := by
  have hP := hw.1.1.1
  have key := loop_st (fun n (s : Mem × Int32) k => f_X5_rounds_L4 157 n s.1 s.2 k) (nP S.1) (fun k s => ∃ B1, MS s.1 (rw1 S k) B1 ∧ s.2 = nI (cw1 S k) ∧ frD M s.1) (fun r => ∃ B1, r.1 = bI (decide (0 < goesN S)) ∧ MS r.2 (rnd S) B1 ∧ frD M r.2) (fun n s hN => ?_) (fun n k s hk hN => ?_) 1000 (M, nI 0) (by omega) ⟨B, h, rfl, frD_rf⟩
  · obtain ⟨⟨r1, r2⟩, k1, B1, k2, k3, k4⟩ := key
    have k2 : r1 = bI (decide (0 < goesN S)) := k2
    refine ⟨r2, B1, ?_, k3, k4⟩
    rw [← k2]
    exact k1
  · obtain ⟨N, v1⟩ := s
    obtain ⟨B1, g, hv, hf⟩ := hN
    have g : MS N (rw1 S (nP S.1)) B1 := g
    have hv : v1 = nI (cw1 S (nP S.1)) := hv
    have hf : frD M N := hf
    obtain ⟨i1, i2, i3, i4, i5⟩ := WR_rw1 hw (nP S.1) (by omega)
    obtain ⟨-, s2⟩ := rw1_sc hw (nP S.1) (by omega)
    have hcw := cw1_le S (nP S.1)
    have z0 : rd N (157 + 1) (0 : Int32).toNatClampNeg = nI (nP S.1) := by rw [← i3]; exact g.1.2.1
    obtain ⟨M1, a1, a2, a3⟩ := x5_emLoop g.1 i1.1 g.2.2 (by rw [s2 2 (by omega)]; exact hfm) (c0 := cw1 S (nP S.1)) (by omega)
    obtain ⟨j1, j2, j3, j4, j5, j6, j7, j8, j9⟩ := emH_ok i1.1
    refine ⟨(_, M1), ?_, B1, rfl, ⟨a2, LM_congr g.2.1 (fun i j q => a3.1 i j (by omega)), WE_ev g.2.2 j9 j2⟩, frD_tr hf (frD_r a3)⟩
    show f_X5_rounds_L4 157 (n + 1) N v1 (nI (nP S.1)) = _
    rw [f_X5_rounds_L4, show (0 : Int32) = nI 0 from rfl, ck_lit 0 (by omega), show (nI 0).toNatClampNeg = (0 : Int32).toNatClampNeg from rfl, z0, if_pos (nI_le (Nat.le_refl _) (by omega)), hv]
    exact a1
  · obtain ⟨N, v1⟩ := s
    obtain ⟨B1, g, hv, hf⟩ := hN
    have g : MS N (rw1 S k) B1 := g
    have hv : v1 = nI (cw1 S k) := hv
    have hf : frD M N := hf
    obtain ⟨i1, i2, i3, i4, i5⟩ := WR_rw1 hw k (by omega)
    have z0 : rd N (157 + 1) (0 : Int32).toNatClampNeg = nI (nP S.1) := by rw [← i3]; exact g.1.2.1
    have hm := x5_may g.1 i1.1.1 g.2.2 i1.1.wn (p := k) (by omega)
    have hstep : f_X5_rounds_L4 157 (n + 1) N v1 (nI k) = bd (some (bI (mayA (rw1 S k).1 k))) (fun x3 => if x3 = (0 : Int32) then (f_X5_rounds_L36 (fun Mq q1 q2 => f_X5_rounds_L4 157 n Mq q1 q2) N 157 v1 (nI k)) else (bd (f_X5_firstOf N 157 (0 : Int32) (nI k)) (fun x6 => bd (f_X5_works N 157 (0 : Int32) x6) (fun M8 => nm (v1 + (1 : Int32)) (fun x11 => f_X5_rounds_L36 (fun Mq q1 q2 => f_X5_rounds_L4 157 n Mq q1 q2) M8 157 x11 (nI k)))))) := by
      have hc0 : ∀ X : Option (Int32 × Mem), ck (0 : Int32) 1048 X = X := fun X => ck_nI (k := 0) (by omega) (by omega)
      rw [f_X5_rounds_L4, hc0, z0, if_neg (nI_ge hk (by omega)), hm]
    by_cases c : mayA (rw1 S k).1 k = true
    · obtain ⟨v, N1, B2, a1, a2, a3, a4, a5⟩ := x5_work g i1 (by omega) (p := k) (by omega) (may_ne i1.1.wn c)
      have e : rw1 S (k + 1) = wkR (rw1 S k) k := by show (if _ then _ else _) = _; rw [if_pos c]
      have e2 : cw1 S (k + 1) = cw1 S k + 1 := by show _ + (if _ then _ else _) = _; rw [if_pos c]
      refine ⟨(N1, nI (cw1 S (k + 1))), ⟨B2, by rw [e]; exact a4, rfl, frD_tr hf a5⟩, ?_⟩
      show f_X5_rounds_L4 157 (n + 1) N v1 (nI k) = f_X5_rounds_L4 157 n N1 (nI (cw1 S (k + 1))) (nI (k + 1))
      rw [hstep, bd_s, c, if_neg (by decide), a1, bd_s, a3, bd_s, e2, nI_succ, nI_succ, ← hv]
      rfl
    · have c' : mayA (rw1 S k).1 k = false := by simpa using c
      have e : rw1 S (k + 1) = rw1 S k := by show (if _ then _ else _) = _; rw [if_neg c]
      have e2 : cw1 S (k + 1) = cw1 S k := by show _ + (if _ then _ else _) = _; rw [if_neg c, Nat.add_zero]
      refine ⟨(N, nI (cw1 S (k + 1))), ⟨B1, by rw [e]; exact g, rfl, hf⟩, ?_⟩
      show f_X5_rounds_L4 157 (n + 1) N v1 (nI k) = f_X5_rounds_L4 157 n N (nI (cw1 S (k + 1))) (nI (k + 1))
      rw [hstep, bd_s, c', if_pos (show bI false = 0 from rfl), e2, nI_succ, ← hv]
      rfl
