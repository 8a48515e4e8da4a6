/-! works with the record: the model -/
theorem LM_congr {M M1 : Mem} {R : Rc} (h : LM M R) (hf : ∀ i j, i = 160 ∨ (i = 157 ∧ j = 2) → rd M1 i j = rd M i j) : LM M1 R := by
  refine ⟨by rw [hf _ _ (by omega)]; exact h.1, fun k hk => ?_⟩
  rw [hf _ _ (by omega), hf _ _ (by omega), hf _ _ (by omega), hf _ _ (by omega)]
  exact h.2 k hk
theorem WE_work {A : Ab} {B1 : Bg} (hX : WX A) (hb : nA A < 2147483647) {p : Nat} (h1 : BgOK B1 (workA A p)) (h2 : B1.length ≤ 30) (h3 : ∀ y ∈ B1, y.1 < nP A) : WE (workA A p) B1 := by
  obtain ⟨w1, w2, w3, w4⟩ := WX_work hX hb p
  refine ⟨h1, h2, fun e he => ?_, w1.2.2.1⟩
  rw [w3]
  exact h3 _ (Bt_mem he)
theorem x5_work {M : Mem} {S : AR} {B : Bg} (h : MS M S B) (hw : WR S) (hb : nA S.1 < 2147483647) {p : Nat} (hp : p < 6) (hne : ev S.1 p ≠ []) : ∃ v M1 B1, f_X5_firstOf M 157 0 (nI p) = some v ∧ ¬ v = -1 ∧ f_X5_works M 157 0 v = some M1 ∧ MS M1 (wkR S p) B1 ∧ frD M M1 := by
  obtain ⟨A, R⟩ := S
  obtain ⟨hRM, hLM, hE⟩ := h
  obtain ⟨hX, hl⟩ := hw
  have hRM : RM M 0 A B := hRM
  have hLM : LM M R := hLM
  have hE : WE A B := hE
  have hX : WX A := hX
  have hne : ev A p ≠ [] := hne
  have hb : nA A < 2147483647 := hb
  have hf : f_X5_firstOf M 157 0 (nI p) = some (oE 0 (pF B p B.length)) := x5_firstOf hRM.2.2.2.2.2.2 hE.2.1 (by omega) (hE.six hX.1) (by omega)
  rcases pF_head hE.1 (hE.2.2.2 p) with ⟨q1, q2⟩ | ⟨x, L, e, q1, q2, q3, q4⟩
  · exact absurd q1 hne
  · have hl30 := hE.2.1
    rw [q2, oE_some] at hf
    obtain ⟨a0, a1, a2, a3, a4⟩ := hRM.2.2.2.2.2.2.2 e q3
    rw [q4] at a0 a1 a3
    have a0 : rd M (157 + 1) (0 + 112 + 5 * e + 0) = nI p := a0
    have a1 : rd M (157 + 1) (0 + 112 + 5 * e + 1) = x.1 := a1
    have a3 : rd M (157 + 1) (0 + 112 + 5 * e + 3) = x.2.2.2 := a3
    have h5 : rd M (157 + 1) 5 + rd M (157 + 1) 6 = sc A 5 + sc A 6 := by
      have z5 : rd M (157 + 1) 5 = sc A 5 := hRM.2.2.1 5 (by omega) (by omega)
      have z6 : rd M (157 + 1) 6 = sc A 6 := hRM.2.2.1 6 (by omega) (by omega)
      rw [z5, z6]
    obtain ⟨M1, b1, b2, b3, b4⟩ := x5_rec hLM hl (nI p) x.1 x.2.2.2 (sc A 5 + sc A 6) h5 (fun N => f_X5_works_L122 N 157 0 (nI (0 + 112 + 5 * e)) (nI p) x.1 x.2.2.2)
    have g1 : RM M1 0 A B := RM_congr hRM hX.1.2.1 hl30 (fun j _ _ => b3 158 j (by omega) (by omega))
    obtain ⟨M2, B1, c1, c2, c3, c4, c5, c6⟩ := x5_core g1 hX.1 hX.2.1 hE (by omega) q3 q4 q1
    have hhT : headT (ev A p) = x.1 := by rw [q1]; rfl
    have hhV : headV (ev A p) = x.2.2.2 := by rw [q1]; rfl
    refine ⟨_, M2, B1, hf, nI_m1 (by omega), ?_, ⟨c2, ?_, WE_work hX hb c3 (by omega) c5⟩, ?_⟩
    · have i0 : nI (0 + 112 + 5 * e) + 0 = nI (0 + 112 + 5 * e + 0) := nI_add _ 0
      have i1 : nI (0 + 112 + 5 * e) + 1 = nI (0 + 112 + 5 * e + 1) := nI_add _ 1
      have i3 : nI (0 + 112 + 5 * e) + 3 = nI (0 + 112 + 5 * e + 3) := nI_add _ 3
      unfold f_X5_works
      rw [i0, i1, i3, ck_nI (by omega) (by omega), cl_nI (by omega), a0, nm_to rfl, ck_nI (by omega) (by omega), cl_nI (by omega), a1, nm_to rfl, ck_nI (by omega) (by omega), cl_nI (by omega), a3, nm_to rfl, if_pos rfl]
      exact b1.trans c1
    · show LM M2 (lgA R (nI p, headT (ev A p), headV (ev A p), sc A 5 + sc A 6))
      rw [hhT, hhV]
      exact LM_congr b2 (fun i j z => c6.1 i j (by omega))
    · refine frD_tr ⟨fun i j z => b3 i j (by omega) (by omega), b4⟩ (frD_r c6)
-- the first half of a round
def rw1 (S : AR) : Nat → AR
  | 0 => S
  | k + 1 => if mayA (rw1 S k).1 k = true then wkR (rw1 S k) k else rw1 S k
theorem may_ne {A : Ab} (hn : WN A) {p : Nat} (h : mayA A p = true) : ev A p ≠ [] := fun e => by
  rw [mayA_nil hn e] at h
  cases h
theorem WR_wk {S : AR} (h : WR S) (hb : nA S.1 < 2147483647) (p : Nat) : WR (wkR S p) ∧ nA (wkR S p).1 ≤ nA S.1 + 1 ∧ nP (wkR S p).1 = nP S.1 ∧ nC (wkR S p).1 = nC S.1 ∧ nH (wkR S p).1 = nH S.1 := by
  obtain ⟨w1, w2, w3, w4, w5⟩ := WX_work h.1 hb p
  exact ⟨⟨w1, lgA_le h.2⟩, w2, w3, w4, w5⟩
theorem WR_rw1 {S : AR} (h : WR S) : ∀ k, nA S.1 + k ≤ 2147483647 → WR (rw1 S k) ∧ nA (rw1 S k).1 ≤ nA S.1 + k ∧ nP (rw1 S k).1 = nP S.1 ∧ nC (rw1 S k).1 = nC S.1 ∧ nH (rw1 S k).1 = nH S.1
  | 0, _ => ⟨h, Nat.le_refl _, rfl, rfl, rfl⟩
  | k + 1, hk => by
    obtain ⟨i1, i2, i3, i4, i5⟩ := WR_rw1 h k (by omega)
    show WR (if mayA (rw1 S k).1 k = true then wkR (rw1 S k) k else rw1 S k) ∧ nA (if mayA (rw1 S k).1 k = true then wkR (rw1 S k) k else rw1 S k).1 ≤ nA S.1 + (k + 1) ∧ nP (if mayA (rw1 S k).1 k = true then wkR (rw1 S k) k else rw1 S k).1 = nP S.1 ∧ nC (if mayA (rw1 S k).1 k = true then wkR (rw1 S k) k else rw1 S k).1 = nC S.1 ∧ nH (if mayA (rw1 S k).1 k = true then wkR (rw1 S k) k else rw1 S k).1 = nH S.1
    by_cases c : mayA (rw1 S k).1 k = true
    · rw [if_pos c]
      obtain ⟨j1, j2, j3, j4, j5⟩ := WR_wk i1 (by omega) k
      exact ⟨j1, by omega, j3.trans i3, j4.trans i4, j5.trans i5⟩
    · rw [if_neg c]
      exact ⟨i1, by omega, i3, i4, i5⟩
