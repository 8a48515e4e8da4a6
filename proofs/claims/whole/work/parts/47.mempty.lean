/-! EMPTY LETTERS: the model -/
theorem WE_ev {A A1 : Ab} {B : Bg} (h : WE A B) (h1 : ∀ q, ev A1 q = ev A q) (h2 : nP A1 = nP A) : WE A1 B := by
  refine ⟨fun q => by rw [h1]; exact h.1 q, h.2.1, fun e he => by rw [h2]; exact h.2.2.1 e he, fun q => by rw [h1]; exact h.2.2.2 q⟩
theorem x5_at0 (c : Nat) : f_X5_at 0 (nI c) = some (nI (0 + 28 + 7 * c)) := x5_at 0 c
theorem ck_lit {α : Type} {X : Option α} (k : Nat) (h : k < 1048) : ck (nI k) 1048 X = X := ck_nI h (by omega)
theorem x5_ask {M : Mem} {A : Ab} {B : Bg} (h : RM M 0 A B) (hX : WX A) (hE : WE A B) {c : Nat} (hc : c < nC A) (hfm : sc A 2 = 0 ∨ sc A 2 = 2) (k31 : Mem → Int32 → Int32 → Option (Int32 × Mem)) (v1 v4 v5 s0 : Int32) : f_X5_empties_L84 k31 M 157 v1 v4 v5 (nI c) (nI (0 + 28 + 7 * c)) s0 = f_X5_empties_L142 k31 M 157 v1 v4 v5 (nI c) (nI (0 + 28 + 7 * c)) s0 (bI (askA A c)) := by
  have hC := hX.1.2.1
  have hP := hX.1.1
  obtain ⟨t1, t2⟩ := hX.2.1.to hc hX.1
  have b1 : rd M (157 + 1) (0 + 28 + 7 * c + 1) = nI (toN A c) := (h.1.2 c 1 hc (by omega)).trans t1
  have z2 : rd M (157 + 1) (2 : Int32).toNatClampNeg = sc A 2 := h.2.2.1 2 (by omega) (by omega)
  have i1 : nI (0 + 28 + 7 * c) + 1 = nI (0 + 28 + 7 * c + 1) := nI_add _ 1
  unfold f_X5_empties_L84
  rw [i1, ck_nI (by omega) (by omega), cl_nI (by omega), b1, nm_to rfl, show (2 : Int32) = nI 2 from rfl, ck_lit 2 (by omega), show (nI 2).toNatClampNeg = (2 : Int32).toNatClampNeg from rfl, z2]
  unfold askA
  rcases hfm with q | q
  · have q2 : ¬ sc A 2 = 2 := by rw [q]; decide
    rw [if_pos q, if_neg q2]
    rfl
  · have q2 : ¬ sc A 2 = 0 := by rw [q]; decide
    rw [if_neg q2, if_pos q]
    have hf : f_X5_firstOf M 157 0 (nI (toN A c)) = some (oE 0 (pF B (toN A c) B.length)) := x5_firstOf h.2.2.2.2.2.2 hE.2.1 (by omega) (hE.six hX.1) (by omega)
    have hl30 := hE.2.1
    rw [hf, bd_s, x5_may h hX.1 hE hX.wn (by omega), bd_s, x5_leastTo h.1 hC, bd_s]
    unfold waitA
    rcases pF_head hE.1 (hE.2.2.2 (toN A c)) with ⟨h1, h2⟩ | ⟨x, L, e, h1, h2, h3, h4⟩
    · rw [h2, h1, oE_none, if_pos rfl]
      cases hb : pBest A (nI (toN A c)) (nC A) <;> rfl
    · have hne : ¬ nI (0 + 112 + 5 * e) = -1 := nI_m1 (by omega)
      have hlen : ¬ (ev A (toN A c)).length = 0 := by rw [h1]; simp
      rw [h2, oE_some, if_neg hne]
      cases hb : pBest A (nI (toN A c)) (nC A) with
      | none =>
        have hm : mayA A (toN A c) = true := by
          unfold mayA safeA
          rw [hb, h1]
          refine decide_eq_true (fun q => ?_)
          have q : (99999999 : Int32) ≤ x.1 := q
          have h9 := hX.wn.2 _ x (by rw [h1]; exact List.mem_cons_self)
          rw [Int32.le_iff_toInt_le] at q
          rw [Int32.lt_iff_toInt_lt] at h9
          omega
        rw [hm, if_neg (by decide)]
        rfl
      | some c3 =>
        have hl3 := (pBest_lt hb).1
        simp only [hlen, if_false]
        by_cases hcc : ch A c3 4 ≤ headT (ev A (toN A c))
        · have hm : mayA A (toN A c) = false := by
            unfold mayA safeA
            rw [hb]
            exact decide_eq_false (fun q => q hcc)
          rw [hm, if_pos (show bI false = 0 from rfl), oI_some, if_pos hcc]
          by_cases e3 : c3 = c
          · rw [e3, if_pos rfl]
            simp [f_X5_empties_L137, bI]
          · rw [if_neg (fun q => e3 ((nI_eq (by omega) (by omega)).mp q))]
            have : decide (some c3 = some c) = false := decide_eq_false (fun q => e3 (Option.some.inj q))
            rw [this]
            rfl
        · have hm : mayA A (toN A c) = true := by
            unfold mayA safeA
            rw [hb]
            exact decide_eq_true hcc
          rw [hm, if_neg (by decide), if_neg hcc]
          rfl
theorem jmin_eq {x y : Int32} : (if x ≤ y then x else y) = jmin x y := by
  unfold jmin
  by_cases c : y < x
  · rw [if_pos c, if_neg (fun q => by rw [Int32.lt_iff_toInt_lt] at c; rw [Int32.le_iff_toInt_le] at q; omega)]
  · rw [if_neg c, if_pos (by rw [Int32.lt_iff_toInt_lt] at c; rw [Int32.le_iff_toInt_le]; omega)]
theorem x5_empties {M : Mem} {A : Ab} {B : Bg} (h : RM M 0 A B) (hX : WX A) (hE : WE A B) (hfm : sc A 2 = 0 ∨ sc A 2 = 2) {p : Nat} (hp : p < 6) : ∃ M1, f_X5_empties M 157 (nI p) = some (nI (emA A p).2, M1) ∧ RM M1 0 (emA A p).1 B ∧ frmR M M1 0 := by
  have hC := hX.1.2.1
  have hl30 := hE.2.1
  obtain ⟨hE0, hE1⟩ := ear_ok hX p
  have ht : f_X5_firstTime M 157 0 (nI p) = some (headT (ev A p)) := x5_firstTime h hX.1 hE (by omega) (by omega)
  have hstart : f_X5_empties M 157 (nI p) = f_X5_empties_L31 157 (nI p) (earA A p) 1000 M (nI 0) (nI 0) := by
    unfold f_X5_empties
    rw [x5_safe h.1 hC, bd_s, ht, bd_s]
    unfold f_X5_empties_L23 earA
    rw [← jmin_eq]
    by_cases c : safeA A (nI p) ≤ headT (ev A p)
    · rw [if_pos c, if_pos c]; rfl
    · rw [if_neg c, if_neg c]; rfl
  have key := loop_st (fun n (s : Mem × Int32) k => f_X5_empties_L31 157 (nI p) (earA A p) n s.1 s.2 k) (nC A) (fun k s => RM s.1 0 (em1 A p (earA A p) k).1 B ∧ s.2 = nI (em1 A p (earA A p) k).2 ∧ frmR M s.1 0) (fun r => r.1 = nI (emA A p).2 ∧ RM r.2 0 (emA A p).1 B ∧ frmR M r.2 0) (fun n s hN => ?_) (fun n k s hk hN => ?_) 1000 (M, nI 0) (by omega) ⟨h, rfl, frmR_rf⟩
  · obtain ⟨⟨r1, r2⟩, k1, k2, k3, k4⟩ := key
    have k2 : r1 = nI (emA A p).2 := k2
    refine ⟨r2, ?_, k3, k4⟩
    rw [hstart, ← k2]
    exact k1
  · obtain ⟨N, v5⟩ := s
    obtain ⟨g, hv, hf⟩ := hN
    obtain ⟨i1, i2, i3, -⟩ := em1_ok hX hE0 hE1 p (nC A) (Nat.le_refl _)
    have z1 : rd N (157 + 1) (1 : Int32).toNatClampNeg = nI (nC A) := by rw [← i3]; exact g.1.1
    refine ⟨(v5, N), ?_, hv, g, hf⟩
    show f_X5_empties_L31 157 (nI p) (earA A p) (n + 1) N v5 (nI (nC A)) = _
    rw [f_X5_empties_L31, show (1 : Int32) = nI 1 from rfl, ck_lit 1 (by omega), show (nI 1).toNatClampNeg = (1 : Int32).toNatClampNeg from rfl, z1, if_pos (nI_le (Nat.le_refl _) (by omega))]
  · obtain ⟨N, v5⟩ := s
    obtain ⟨g, hv, hf⟩ := hN
    obtain ⟨i1, i2, i3, i4, i5, i6, i7, i8, i9⟩ := em1_ok hX hE0 hE1 p k (by omega)
    have hst0 : em1 A p (earA A p) (k + 1) = if goesA (em1 A p (earA A p) k).1 p (earA A p) k = true then (emC (em1 A p (earA A p) k).1 k (thenA (em1 A p (earA A p) k).1 (earA A p) k), (em1 A p (earA A p) k).2 + 1) else em1 A p (earA A p) k := rfl
    have hv : v5 = nI (em1 A p (earA A p) k).2 := hv
    have hf : frmR M N 0 := hf
    have g : RM N 0 (em1 A p (earA A p) k).1 B := g
    have hEk : WE (em1 A p (earA A p) k).1 B := WE_ev hE i9 i2
    have hfk : sc (em1 A p (earA A p) k).1 2 = 0 ∨ sc (em1 A p (earA A p) k).1 2 = 2 := by rw [i8 2 (by omega)]; exact hfm
    obtain ⟨cn, hcn⟩ : ∃ cn, cn = (em1 A p (earA A p) k).2 := ⟨_, rfl⟩
    obtain ⟨Ak, hA⟩ : ∃ Ak, Ak = (em1 A p (earA A p) k).1 := ⟨_, rfl⟩
    have hpair : em1 A p (earA A p) k = (Ak, cn) := by rw [hA, hcn]
    rw [← hA] at g i1 i2 i3 hEk hfk hst0
    rw [← hcn] at hst0 hv
    rw [hpair] at hst0
    have hk3 : k < nC Ak := by omega
    have hCk : nC Ak ≤ 12 := by omega
    have b0 : rd N (157 + 1) (0 + 28 + 7 * k + 0) = ch Ak k 0 := g.1.2 k 0 hk3 (by omega)
    have b2 : rd N (157 + 1) (0 + 28 + 7 * k + 2) = ch Ak k 2 := g.1.2 k 2 hk3 (by omega)
    have b4 : rd N (157 + 1) (0 + 28 + 7 * k + 4) = ch Ak k 4 := g.1.2 k 4 hk3 (by omega)
    have z1 : rd N (157 + 1) (1 : Int32).toNatClampNeg = nI (nC Ak) := g.1.1
    have j0 : nI (0 + 28 + 7 * k) + 0 = nI (0 + 28 + 7 * k + 0) := nI_add _ 0
    have j2 : nI (0 + 28 + 7 * k) + 2 = nI (0 + 28 + 7 * k + 2) := nI_add _ 2
    have j4 : nI (0 + 28 + 7 * k) + 4 = nI (0 + 28 + 7 * k + 4) := nI_add _ 4
    have j6 : nI (0 + 28 + 7 * k) + 6 = nI (0 + 28 + 7 * k + 6) := nI_add _ 6
    obtain ⟨N1, e1⟩ : ∃ N1, N1 = wr N (157 + 1) (0 + 28 + 7 * k + 4) (thenA Ak (earA A p) k) := ⟨_, rfl⟩
    obtain ⟨N2, e2⟩ : ∃ N2, N2 = wr N1 (157 + 1) (0 + 28 + 7 * k + 6) (ch Ak k 6 + 1) := ⟨_, rfl⟩
    obtain ⟨N3, e3⟩ : ∃ N3, N3 = wr N2 (157 + 1) (4 : Int32).toNatClampNeg (sc Ak 4 + 1) := ⟨_, rfl⟩
    have g1 : RM N1 0 (stC Ak k 4 (thenA Ak (earA A p) k)) B := by rw [e1]; exact RM_C (k := 4) g hCk (by omega) (by omega) rfl
    have g2 : RM N2 0 (stC (stC Ak k 4 (thenA Ak (earA A p) k)) k 6 (ch Ak k 6 + 1)) B := by rw [e2]; exact RM_C (k := 6) g1 hCk (by omega) (by omega) rfl
    have g3 : RM N3 0 (emC Ak k (thenA Ak (earA A p) k)) B := by
      rw [e3, show (4 : Int32).toNatClampNeg = 0 + 4 from rfl]
      exact RM_S (k := 4) g2 hCk (by omega) (by omega)
    have r1 : rd N1 (157 + 1) (0 + 28 + 7 * k + 6) = ch Ak k 6 := by
      have q := g1.1.2 k 6 hk3 (by omega)
      rw [ch_stC, if_neg (by omega)] at q
      exact q
    have r2 : rd N2 (157 + 1) (4 : Int32).toNatClampNeg = sc Ak 4 := g2.2.2.1 4 (by omega) (by omega)
    have hgo : f_X5_empties_L31 157 (nI p) (earA A p) (n + 1) N v5 (nI k) = (if ch Ak k 0 = nI p then (if thenA Ak (earA A p) k ≤ ch Ak k 4 then f_X5_empties_L31 157 (nI p) (earA A p) n N v5 (nI (k + 1)) else (if bI (askA Ak k) = 0 then f_X5_empties_L31 157 (nI p) (earA A p) n N v5 (nI (k + 1)) else f_X5_empties_L31 157 (nI p) (earA A p) n N3 (v5 + 1) (nI (k + 1)))) else f_X5_empties_L31 157 (nI p) (earA A p) n N v5 (nI (k + 1))) := by
      have h84 : f_X5_empties_L31 157 (nI p) (earA A p) (n + 1) N v5 (nI k) = f_X5_empties_L84 (fun Mq q5 q6 => f_X5_empties_L31 157 (nI p) (earA A p) n Mq q5 q6) N 157 (nI p) (earA A p) v5 (nI k) (nI (0 + 28 + 7 * k)) (thenA Ak (earA A p) k) := by
        rw [f_X5_empties_L31, show (1 : Int32) = nI 1 from rfl, ck_lit 1 (by omega), show (nI 1).toNatClampNeg = (1 : Int32).toNatClampNeg from rfl, z1, if_neg (nI_ge hk3 (by omega)), x5_at0, bd_s, j2, ck_nI (by omega) (by omega), ck_nI (by omega) (by omega), cl_nI (by omega), b2]
        unfold thenA
        rw [← jmin_eq]
        by_cases c : earA A p + ch Ak k 2 ≤ 99999999
        · rw [if_pos c, if_pos c]
        · rw [if_neg c, if_neg c]
      rw [h84, x5_ask g i1 hEk hk3 hfk]
      unfold f_X5_empties_L142
      rw [j0, j4, j6, ck_nI (by omega) (by omega), cl_nI (by omega), b0, ck_nI (by omega) (by omega), cl_nI (by omega), b4, ck_nI (by omega) (by omega), nm_to e1, nm_to rfl, ck_nI (by omega) (by omega), ck_nI (by omega) (by omega), cl_nI (by omega), r1, nm_to e2, show (4 : Int32) = nI 4 from rfl, ck_lit 4 (by omega), ck_lit 4 (by omega), show (nI 4).toNatClampNeg = (4 : Int32).toNatClampNeg from rfl, r2, nm_to e3]
      unfold f_X5_empties_L214 nm
      rw [nI_succ]
    rw [hst0]
    by_cases c1 : ch Ak k 0 = nI p
    · by_cases c2 : thenA Ak (earA A p) k ≤ ch Ak k 4
      · have hg : goesA Ak p (earA A p) k = false := by simp [goesA, c2]
        refine ⟨(N, v5), ?_, ?_⟩
        · rw [hg, if_neg (by decide)]; exact ⟨g, hv, hf⟩
        · show f_X5_empties_L31 157 (nI p) (earA A p) (n + 1) N v5 (nI k) = _
          rw [hgo, if_pos c1, if_pos c2]
      · cases hk2 : askA Ak k with
        | false =>
          have hg : goesA Ak p (earA A p) k = false := by simp [goesA, hk2]
          refine ⟨(N, v5), ?_, ?_⟩
          · rw [hg, if_neg (by decide)]; exact ⟨g, hv, hf⟩
          · show f_X5_empties_L31 157 (nI p) (earA A p) (n + 1) N v5 (nI k) = _
            rw [hgo, if_pos c1, if_neg c2, hk2, if_pos (show bI false = 0 from rfl)]
        | true =>
          have hg : goesA Ak p (earA A p) k = true := by simp [goesA, c1, c2, hk2]
          refine ⟨(N3, v5 + 1), ?_, ?_⟩
          · rw [hg, if_pos rfl]
            refine ⟨g3, ?_, frmR_tr hf (frmR_tr (frmR_w e1 (by omega) (by omega)) (frmR_tr (frmR_w e2 (by omega) (by omega)) (frmR_w e3 (by show 0 ≤ _; omega) (by show 4 < 262; omega))))⟩
            show v5 + 1 = nI (cn + 1)
            rw [hv, nI_succ]
          · show f_X5_empties_L31 157 (nI p) (earA A p) (n + 1) N v5 (nI k) = _
            rw [hgo, if_pos c1, if_neg c2, hk2, if_neg (by decide)]
    · have hg : goesA Ak p (earA A p) k = false := by simp [goesA, c1]
      refine ⟨(N, v5), ?_, ?_⟩
      · rw [hg, if_neg (by decide)]; exact ⟨g, hv, hf⟩
      · show f_X5_empties_L31 157 (nI p) (earA A p) (n + 1) N v5 (nI k) = _
        rw [hgo, if_neg c1]
