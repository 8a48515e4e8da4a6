/-! a ROUND -/
theorem sc_send {A : Ab} {p : Nat} {t v : Int32} {j : Nat} : sc (sendA A p t v) j = sc A j := by
  unfold sendA
  by_cases h1 : v ≤ 0
  · rw [if_pos h1]
  · rw [if_neg h1]
    by_cases h2 : outN A p = 0
    · rw [if_pos h2]
    · rw [if_neg h2]
      cases fstIx (isPlace A (nI p) (v.toNatClampNeg % outN A p)) (nC A) <;> rfl
theorem sc_work {A : Ab} {p : Nat} (hne : ev A p ≠ []) (j : Nat) : sc (workA A p) j = if j = 3 then sc A 3 + 1 else sc A j := by
  unfold workA
  cases hv : ev A p with
  | nil => exact absurd hv hne
  | cons x L =>
    show sc (sendA (work1 A p x L) p x.1 x.2.2.2) j = _
    rw [sc_send]
    rfl
def cw1 (S : AR) : Nat → Nat
  | 0 => 0
  | k + 1 => cw1 S k + (if mayA (rw1 S k).1 k = true then 1 else 0)
theorem cw1_le (S : AR) : ∀ k, cw1 S k ≤ k
  | 0 => Nat.le_refl 0
  | k + 1 => by
    have := cw1_le S k
    show cw1 S k + (if mayA (rw1 S k).1 k = true then 1 else 0) ≤ k + 1
    split <;> omega
theorem rw1_sc {S : AR} (h : WR S) : ∀ k, nA S.1 + k ≤ 2147483647 → sc (rw1 S k).1 3 = sc S.1 3 + nI (cw1 S k) ∧ ∀ j, j ≠ 3 → sc (rw1 S k).1 j = sc S.1 j
  | 0, _ => ⟨by show sc S.1 3 = sc S.1 3 + 0; rw [Int32.add_zero], fun _ _ => rfl⟩
  | k + 1, hk => by
    obtain ⟨i1, i2⟩ := rw1_sc h k (by omega)
    obtain ⟨w1, -⟩ := WR_rw1 h k (by omega)
    by_cases c : mayA (rw1 S k).1 k = true
    · have e : rw1 S (k + 1) = wkR (rw1 S k) k := by show (if _ then _ else _) = _; rw [if_pos c]
      have e2 : cw1 S (k + 1) = cw1 S k + 1 := by show _ + (if _ then _ else _) = _; rw [if_pos c]
      have hne := may_ne w1.1.wn c
      rw [e, e2]
      refine ⟨?_, fun j hj => ?_⟩
      · show sc (workA (rw1 S k).1 k) 3 = _
        rw [sc_work hne, if_pos rfl, i1, nI_succ, Int32.add_assoc]
      · show sc (workA (rw1 S k).1 k) j = _
        rw [sc_work hne, if_neg hj, i2 j hj]
    · have e : rw1 S (k + 1) = rw1 S k := by show (if _ then _ else _) = _; rw [if_neg c]
      have e2 : cw1 S (k + 1) = cw1 S k := by show _ + (if _ then _ else _) = _; rw [if_neg c, Nat.add_zero]
      rw [e, e2]
      exact ⟨i1, i2⟩
def em2 (A : Ab) : Nat → Ab × Nat
  | 0 => (A, 0)
  | k + 1 => ((emA (em2 A k).1 k).1, (em2 A k).2 + (emA (em2 A k).1 k).2)
theorem em2_ok {A : Ab} (h : WX A) : ∀ k, WX (em2 A k).1 ∧ nP (em2 A k).1 = nP A ∧ nC (em2 A k).1 = nC A ∧ nH (em2 A k).1 = nH A ∧ nA (em2 A k).1 = nA A ∧ (em2 A k).2 ≤ 12 * k ∧ sc (em2 A k).1 4 = sc A 4 + nI (em2 A k).2 ∧ (∀ j, j ≠ 4 → sc (em2 A k).1 j = sc A j) ∧ (∀ q, ev (em2 A k).1 q = ev A q)
  | 0 => ⟨h, rfl, rfl, rfl, rfl, Nat.le_refl _, by show sc A 4 = sc A 4 + 0; rw [Int32.add_zero], fun _ _ => rfl, fun _ => rfl⟩
  | k + 1 => by
    obtain ⟨i1, i2, i3, i4, i5, i6, i7, i8, i9⟩ := em2_ok h k
    obtain ⟨e0, e1⟩ := ear_ok i1 k
    obtain ⟨j1, j2, j3, j4, j5, j6, j7, j8, j9⟩ := em1_ok i1 e0 e1 k (nC (em2 A k).1) (Nat.le_refl _)
    have hC := h.1.2.1
    refine ⟨j1, j2.trans i2, j3.trans i3, j4.trans i4, j5.trans i5, ?_, ?_, fun j hj => (j8 j hj).trans (i8 j hj), fun q => (j9 q).trans (i9 q)⟩
    · show (em2 A k).2 + (emA (em2 A k).1 k).2 ≤ 12 * (k + 1)
      have : (emA (em2 A k).1 k).2 ≤ nC (em2 A k).1 := j6
      omega
    · show sc (emA (em2 A k).1 k).1 4 = sc A 4 + nI ((em2 A k).2 + (emA (em2 A k).1 k).2)
      have : sc (emA (em2 A k).1 k).1 4 = sc (em2 A k).1 4 + nI (emA (em2 A k).1 k).2 := j7
      rw [this, i7, ← nI_add, Int32.add_assoc]
/-- the second half: letters without anything, by form -/
def emH (A : Ab) : Ab × Nat := if sc A 2 = 1 then (A, 0) else em2 A (nP A)
def rndA (A : Ab) : Ab := stS (emH A).1 5 (sc (emH A).1 5 + 1)
def rnd (S : AR) : AR := (rndA (rw1 S (nP S.1)).1, (rw1 S (nP S.1)).2)
def goesN (S : AR) : Nat := cw1 S (nP S.1) + (emH (rw1 S (nP S.1)).1).2
theorem WX_S {A : Ab} (h : WX A) (k : Nat) (v : Int32) : WX (stS A k v) := h
theorem emH_ok {A : Ab} (h : WX A) : WX (emH A).1 ∧ nP (emH A).1 = nP A ∧ nC (emH A).1 = nC A ∧ nH (emH A).1 = nH A ∧ nA (emH A).1 = nA A ∧ (emH A).2 ≤ 72 ∧ sc (emH A).1 4 = sc A 4 + nI (emH A).2 ∧ (∀ j, j ≠ 4 → sc (emH A).1 j = sc A j) ∧ (∀ q, ev (emH A).1 q = ev A q) := by
  unfold emH
  by_cases c : sc A 2 = 1
  · rw [if_pos c]
    exact ⟨h, rfl, rfl, rfl, rfl, Nat.zero_le _, by show sc A 4 = sc A 4 + 0; rw [Int32.add_zero], fun _ _ => rfl, fun _ => rfl⟩
  · rw [if_neg c]
    obtain ⟨i1, i2, i3, i4, i5, i6, i7, i8, i9⟩ := em2_ok h (nP A)
    have hP := h.1.1
    exact ⟨i1, i2, i3, i4, i5, by omega, i7, i8, i9⟩
theorem tot_ev {A A1 : Ab} (h1 : ∀ q, ev A1 q = ev A q) (h2 : nP A1 = nP A) : totE A1 = totE A := by
  unfold totE
  rw [h2]
  exact pSum_congr (fun q _ => by rw [h1])
theorem WR_rnd {S : AR} (h : WR S) (hb : nA S.1 + 6 ≤ 2147483647) : WR (rnd S) ∧ nA (rnd S).1 ≤ nA S.1 + 6 ∧ nP (rnd S).1 = nP S.1 ∧ nC (rnd S).1 = nC S.1 ∧ nH (rnd S).1 = nH S.1 ∧ sc (rnd S).1 2 = sc S.1 2 := by
  have hP := h.1.1.1
  obtain ⟨i1, i2, i3, i4, i5⟩ := WR_rw1 h (nP S.1) (by omega)
  obtain ⟨-, s2⟩ := rw1_sc h (nP S.1) (by omega)
  obtain ⟨j1, j2, j3, j4, j5, j6, j7, j8, j9⟩ := emH_ok i1.1
  refine ⟨⟨WX_S j1 _ _, i1.2⟩, ?_, j2.trans i3, j3.trans i4, j4.trans i5, ?_⟩
  · show nA (emH (rw1 S (nP S.1)).1).1 ≤ _
    omega
  · show sc (stS (emH (rw1 S (nP S.1)).1).1 5 _) 2 = _
    rw [sc_stS, if_neg (by omega), j8 2 (by omega), s2 2 (by omega)]
theorem x4_worksLoop {M : Mem} {S : AR} (h : CS M S) (hw : WR S) (hb : nA S.1 + 6 ≤ 2147483647) (v1 v2 : Int32) {Q : (Int32 × Mem) → Prop} (hend : ∀ N, CS N (rw1 S (nP S.1)) → frC M N → ∃ r, f_X4_isStillAfterRound_L51 N 0 v1 v2 = some r ∧ Q r) : ∃ r, f_X4_isStillAfterRound_L18 0 v1 v2 1000 M (nI 0) = some r ∧ Q r := by
  have hP := hw.1.1.1
  refine loop_st (f_X4_isStillAfterRound_L18 0 v1 v2) (nP S.1) (fun k N => CS N (rw1 S k) ∧ frC M N) Q (fun n N hN => ?_) (fun n k N hk hN => ?_) 1000 M (by omega) ⟨h, frC_rf⟩
  · obtain ⟨g, hf⟩ := hN
    obtain ⟨i1, i2, i3, i4, i5⟩ := WR_rw1 hw (nP S.1) (by omega)
    have z5 : rd N (0 + 1) 5 = nI (nP S.1) := by rw [← i3]; exact g.1.2.1
    rw [f_X4_isStillAfterRound_L18, z5, if_pos (nI_le (Nat.le_refl _) (by omega))]
    exact hend N g hf
  · obtain ⟨g, hf⟩ := hN
    obtain ⟨i1, i2, i3, i4, i5⟩ := WR_rw1 hw k (by omega)
    have z5 : rd N (0 + 1) 5 = nI (nP S.1) := by rw [← i3]; exact g.1.2.1
    have hm := x3_mayWork g.1 i1.1.1 (p := k) (by omega)
    rw [f_X4_isStillAfterRound_L18, z5, if_neg (nI_ge hk (by omega)), hm, bd_s]
    by_cases c : mayA (rw1 S k).1 k = true
    · obtain ⟨N1, a1, a2, a3⟩ := x4_work g i1 (p := k) (by omega) (may_ne i1.1.wn c)
      have e : rw1 S (k + 1) = wkR (rw1 S k) k := by show (if _ then _ else _) = _; rw [if_pos c]
      refine ⟨N1, by rw [e]; exact ⟨a2, frC_tr hf a3⟩, ?_⟩
      rw [c, if_neg (by decide), a1, bd_s]
      unfold f_X4_isStillAfterRound_L45 nm
      rw [nI_succ]
    · have c' : mayA (rw1 S k).1 k = false := by simpa using c
      have e : rw1 S (k + 1) = rw1 S k := by show (if _ then _ else _) = _; rw [if_neg c]
      refine ⟨N, by rw [e]; exact ⟨g, hf⟩, ?_⟩
      rw [c', if_pos (show bI false = 0 from rfl)]
      unfold f_X4_isStillAfterRound_L45 nm
      rw [nI_succ]
theorem x4_emLoop {M : Mem} {A : Ab} (h : RC M (0 + 1) A) (hX : WX A) (v1 v2 : Int32) {Q : (Int32 × Mem) → Prop} (hend : ∀ N, RC N (0 + 1) (em2 A (nP A)).1 → frm M N 1 38 → ∃ r, f_X4_isStillAfterRound_L89 N 0 v1 v2 = some r ∧ Q r) : ∃ r, f_X4_isStillAfterRound_L64 0 v1 v2 1000 M (nI 0) = some r ∧ Q r := by
  have hP := hX.1.1
  refine loop_st (f_X4_isStillAfterRound_L64 0 v1 v2) (nP A) (fun k N => RC N (0 + 1) (em2 A k).1 ∧ frm M N 1 38) Q (fun n N hN => ?_) (fun n k N hk hN => ?_) 1000 M (by omega) ⟨h, frm_rf⟩
  · obtain ⟨g, hf⟩ := hN
    obtain ⟨i1, i2, -⟩ := em2_ok hX (nP A)
    have z5 : rd N (0 + 1) 5 = nI (nP A) := by rw [← i2]; exact g.2.1
    rw [f_X4_isStillAfterRound_L64, z5, if_pos (nI_le (Nat.le_refl _) (by omega))]
    exact hend N g hf
  · obtain ⟨g, hf⟩ := hN
    obtain ⟨i1, i2, -⟩ := em2_ok hX k
    have z5 : rd N (0 + 1) 5 = nI (nP A) := by rw [← i2]; exact g.2.1
    obtain ⟨N1, a1, a2, a3⟩ := x3_sendEmpty g i1 (p := k) (by omega)
    refine ⟨N1, ⟨a2, frm_tr hf (frm_wd a3 (by omega) (by omega))⟩, ?_⟩
    rw [f_X4_isStillAfterRound_L64, z5, if_neg (nI_ge hk (by omega)), a1, bd_s]
    unfold nm
    rw [nI_succ]
theorem add_nI_eq {x : Int32} {k : Nat} (hk : k < 2147483648) : (x + nI k = x) ↔ k = 0 := by
  constructor
  · intro q
    have h1 : nI k = 0 := by
      have : x + nI k = x + 0 := by rw [q, Int32.add_zero]
      exact (Int32.add_right_inj x).mp this
    have h2 : (nI k).toInt = (0 : Int32).toInt := by rw [h1]
    rw [nI_toInt hk] at h2
    have e : (0 : Int32).toInt = 0 := by decide
    omega
  · intro q
    rw [q]
    exact Int32.add_zero _
theorem x4_round {M : Mem} {S : AR} (h : CS M S) (hw : WR S) (hb : nA S.1 + 6 ≤ 2147483647) : ∃ M1, f_X4_isStillAfterRound M 0 = some (bI (decide (goesN S = 0 ∧ 0 < totE (rnd S).1)), M1) ∧ CS M1 (rnd S) ∧ frC M M1 := by
  have hP := hw.1.1.1
  obtain ⟨i1, i2, i3, i4, i5⟩ := WR_rw1 hw (nP S.1) (by omega)
  obtain ⟨s1, s2⟩ := rw1_sc hw (nP S.1) (by omega)
  obtain ⟨j1, j2, j3, j4, j5, j6, j7, j8, j9⟩ := emH_ok i1.1
  have hcw := cw1_le S (nP S.1)
  have z3 : rd M (0 + 1) 7 = sc S.1 3 := h.1.2.2.1 3 (by omega) (by omega)
  have z4 : rd M (0 + 1) 8 = sc S.1 4 := h.1.2.2.1 4 (by omega) (by omega)
  -- the end: L89
  have h89 : ∀ N, RC N (0 + 1) (emH (rw1 S (nP S.1)).1).1 → LC N (rw1 S (nP S.1)).2 → frC M N → ∃ r, f_X4_isStillAfterRound_L89 N 0 (sc S.1 3) (sc S.1 4) = some r ∧ (r.1 = bI (decide (goesN S = 0 ∧ 0 < totE (rnd S).1)) ∧ CS r.2 (rnd S) ∧ frC M r.2) := by
    intro N g gl hf
    have y5 : rd N (0 + 1) 9 = sc (emH (rw1 S (nP S.1)).1).1 5 := g.2.2.1 5 (by omega) (by omega)
    obtain ⟨N1, e1⟩ : ∃ N1, N1 = wr N (0 + 1) 9 (sc (emH (rw1 S (nP S.1)).1).1 5 + 1) := ⟨_, rfl⟩
    have g1 : RC N1 (0 + 1) (rnd S).1 := by rw [e1]; exact RC_S (k := 5) g (by omega) (by omega)
    have f1 : frm N N1 1 38 := frm_w e1 (by omega) (by omega)
    have gl1 : LC N1 (rnd S).2 := LC_congr gl (fun i j q1 q2 => f1.1 i j (by omega))
    have y3 : rd N1 (0 + 1) 7 = sc S.1 3 + nI (cw1 S (nP S.1)) := by
      have q := g1.2.2.1 3 (by omega) (by omega)
      have q2 : sc (rnd S).1 3 = sc S.1 3 + nI (cw1 S (nP S.1)) := by
        show sc (stS (emH (rw1 S (nP S.1)).1).1 5 _) 3 = _
        rw [sc_stS, if_neg (by omega), j8 3 (by omega), s1]
      rw [q2] at q
      exact q
    have y4 : rd N1 (0 + 1) 8 = sc S.1 4 + nI (emH (rw1 S (nP S.1)).1).2 := by
      have q := g1.2.2.1 4 (by omega) (by omega)
      have q2 : sc (rnd S).1 4 = sc S.1 4 + nI (emH (rw1 S (nP S.1)).1).2 := by
        show sc (stS (emH (rw1 S (nP S.1)).1).1 5 _) 4 = _
        rw [sc_stS, if_neg (by omega), j7, s2 4 (by omega)]
      rw [q2] at q
      exact q
    have hX1 : WX (rnd S).1 := WX_S j1 _ _
    have htl : totE (rnd S).1 ≤ 30 := Nat.le_trans hX1.2.2.2.2.2.1 hX1.1.2.2.1
    have hC1 : CS N1 (rnd S) := ⟨g1, gl1⟩
    have hF1 : frC M N1 := frC_tr hf (frC_w f1)
    unfold f_X4_isStillAfterRound_L89
    rw [y5, nm_to e1, y3, y4, x3_eventsThatWait g1 hX1.1, bd_s]
    by_cases c1 : cw1 S (nP S.1) = 0
    · rw [if_pos ((add_nI_eq (by omega)).mpr c1)]
      by_cases c2 : (emH (rw1 S (nP S.1)).1).2 = 0
      · rw [if_pos ((add_nI_eq (by omega)).mpr c2)]
        by_cases c3 : totE (rnd S).1 = 0
        · rw [if_pos (by rw [c3]; exact Int32.le_refl _), decide_eq_false (by omega)]
          exact ⟨_, rfl, rfl, hC1, hF1⟩
        · rw [if_neg (nI_nle (by omega) (by omega)), decide_eq_true ⟨by unfold goesN; omega, by omega⟩]
          exact ⟨_, rfl, rfl, hC1, hF1⟩
      · rw [if_neg (fun q => c2 ((add_nI_eq (by omega)).mp q)), decide_eq_false (fun q => by have := q.1; unfold goesN at this; omega)]
        exact ⟨_, rfl, rfl, hC1, hF1⟩
    · rw [if_neg (fun q => c1 ((add_nI_eq (by omega)).mp q)), decide_eq_false (fun q => by have := q.1; unfold goesN at this; omega)]
      exact ⟨_, rfl, rfl, hC1, hF1⟩
  have key := x4_worksLoop h hw hb (sc S.1 3) (sc S.1 4) (Q := fun r => r.1 = bI (decide (goesN S = 0 ∧ 0 < totE (rnd S).1)) ∧ CS r.2 (rnd S) ∧ frC M r.2) (fun N g hf => ?_)
  · obtain ⟨⟨r1, r2⟩, k1, k2, k3, k4⟩ := key
    have k2 : r1 = _ := k2
    refine ⟨r2, ?_, k3, k4⟩
    unfold f_X4_isStillAfterRound
    rw [z3, z4, nm_to rfl, nm_to rfl, ← k2]
    exact k1
  · have z6 : rd N (0 + 1) 6 = sc (rw1 S (nP S.1)).1 2 := g.1.2.2.1 2 (by omega) (by omega)
    unfold f_X4_isStillAfterRound_L51
    rw [z6]
    by_cases c : sc (rw1 S (nP S.1)).1 2 = 1
    · rw [if_pos c]
      have e : emH (rw1 S (nP S.1)).1 = ((rw1 S (nP S.1)).1, 0) := by unfold emH; rw [if_pos c]
      exact h89 N (by rw [e]; exact g.1) g.2 hf
    · rw [if_neg c]
      have e : emH (rw1 S (nP S.1)).1 = em2 (rw1 S (nP S.1)).1 (nP (rw1 S (nP S.1)).1) := by unfold emH; rw [if_neg c]
      refine x4_emLoop g.1 i1.1 _ _ (fun N1 g1 f1 => ?_)
      exact h89 N1 (by rw [e]; exact g1) (LC_congr g.2 (fun i j q1 q2 => f1.1 i j (by omega))) (frC_tr hf (frC_w f1))
