/-! changes of the abstract state; what the class's cells say behind them -/
def stS (A : Ab) (k : Nat) (v : Int32) : Ab := (A.1, (fun j => if j = k then v else sc A j), A.2.2)
def stC (A : Ab) (c k : Nat) (v : Int32) : Ab := (A.1, A.2.1, (fun c' k' => if c' = c ∧ k' = k then v else ch A c' k'), A.2.2.2)
def stP (A : Ab) (k p : Nat) (v : Int32) : Ab := (A.1, A.2.1, A.2.2.1, (fun k' p' => if k' = k ∧ p' = p then v else pt A k' p'), A.2.2.2.2)
def stE (A : Ab) (p : Nat) (L : List Ev) : Ab := (A.1, A.2.1, A.2.2.1, A.2.2.2.1, (fun q => if q = p then L else ev A q))
def stN (A : Ab) (n m h a : Nat) : Ab := ((n, m, h, a), A.2)
theorem ev_stE {A : Ab} {p q : Nat} {L : List Ev} : ev (stE A p L) q = if q = p then L else ev A q := rfl
theorem ch_stC {A : Ab} {c k c' k' : Nat} {v : Int32} : ch (stC A c k v) c' k' = if c' = c ∧ k' = k then v else ch A c' k' := rfl
theorem pt_stP {A : Ab} {k p k' p' : Nat} {v : Int32} : pt (stP A k p v) k' p' = if k' = k ∧ p' = p then v else pt A k' p' := rfl
theorem sc_stS {A : Ab} {k j : Nat} {v : Int32} : sc (stS A k v) j = if j = k then v else sc A j := rfl
/-- RC reads only its own 37 cells -/
theorem RC_congr {M M1 : Mem} {w : Nat} {A : Ab} (h : RC M w A) (hf : ∀ i j, w ≤ i → i < w + 37 → rd M1 i j = rd M i j) : RC M1 w A := by
  obtain ⟨⟨a1, a2⟩, a3, a4, a5, a6, a7⟩ := h
  refine ⟨⟨by rw [hf _ _ (by omega) (by omega)]; exact a1, fun c hc => ?_⟩, by rw [hf _ _ (by omega) (by omega)]; exact a3, fun k h1 h2 => by rw [hf _ _ (by omega) (by omega)]; exact a4 k h1 h2, by rw [hf _ _ (by omega) (by omega)]; exact a5, fun k p h1 h2 => by rw [hf _ _ (by omega) (by omega)]; exact a6 k p h1 h2, fun p h1 => ⟨by rw [hf _ _ (by omega) (by omega)]; exact (a7 p h1).1, fun j hj => ?_⟩⟩
  · rw [hf _ _ (by omega) (by omega), hf _ _ (by omega) (by omega), hf _ _ (by omega) (by omega), hf _ _ (by omega) (by omega), hf _ _ (by omega) (by omega), hf _ _ (by omega) (by omega), hf _ _ (by omega) (by omega)]
    exact a2 c hc
  · rw [hf _ _ (by omega) (by omega), hf _ _ (by omega) (by omega), hf _ _ (by omega) (by omega)]
    exact (a7 p h1).2 j hj
theorem RC_frm {M M1 : Mem} {w lo hi : Nat} {A : Ab} (h : RC M w A) (hf : frm M M1 lo hi) (hd : hi ≤ w ∨ w + 37 ≤ lo) : RC M1 w A := RC_congr h (fun i j h1 h2 => hf.1 i j (by omega))
theorem RC_S {M : Mem} {w k : Nat} {A : Ab} {v : Int32} (h : RC M w A) (h1 : 2 ≤ k) (h2 : k < 7) : RC (wr M w (k + 4) v) w (stS A k v) := by
  obtain ⟨⟨a1, a2⟩, a3, a4, a5, a6, a7⟩ := h
  refine ⟨⟨by rw [rd_wr, if_neg (by omega)]; exact a1, fun c hc => ?_⟩, by rw [rd_wr, if_neg (by omega)]; exact a3, fun k' q1 q2 => ?_, by rw [rd_wr, if_neg (by omega)]; exact a5, fun k' p q1 q2 => by rw [rd_wr, if_neg (by omega)]; exact a6 k' p q1 q2, fun p q1 => ⟨by rw [rd_wr, if_neg (by omega)]; exact (a7 p q1).1, fun j hj => ?_⟩⟩
  · rw [rd_wr, if_neg (by omega), rd_wr, if_neg (by omega), rd_wr, if_neg (by omega), rd_wr, if_neg (by omega), rd_wr, if_neg (by omega), rd_wr, if_neg (by omega), rd_wr, if_neg (by omega)]
    exact a2 c hc
  · rw [rd_wr, sc_stS]
    by_cases q : k' = k
    · rw [if_pos ⟨rfl, by omega⟩, if_pos q]
    · rw [if_neg (by omega), if_neg q]; exact a4 k' q1 q2
  · rw [rd_wr, if_neg (by omega), rd_wr, if_neg (by omega), rd_wr, if_neg (by omega)]
    exact (a7 p q1).2 j hj
theorem RC_P {M : Mem} {w k p : Nat} {A : Ab} {v : Int32} (h : RC M w A) (h1 : k < 3) (h2 : p < 6) : RC (wr M (w + 10 + k) p v) w (stP A k p v) := by
  obtain ⟨⟨a1, a2⟩, a3, a4, a5, a6, a7⟩ := h
  refine ⟨⟨by rw [rd_wr, if_neg (by omega)]; exact a1, fun c hc => ?_⟩, by rw [rd_wr, if_neg (by omega)]; exact a3, fun k' q1 q2 => by rw [rd_wr, if_neg (by omega)]; exact a4 k' q1 q2, by rw [rd_wr, if_neg (by omega)]; exact a5, fun k' p' q1 q2 => ?_, fun p' q1 => ⟨by rw [rd_wr, if_neg (by omega)]; exact (a7 p' q1).1, fun j hj => ?_⟩⟩
  · rw [rd_wr, if_neg (by omega), rd_wr, if_neg (by omega), rd_wr, if_neg (by omega), rd_wr, if_neg (by omega), rd_wr, if_neg (by omega), rd_wr, if_neg (by omega), rd_wr, if_neg (by omega)]
    exact a2 c hc
  · rw [rd_wr, pt_stP]
    by_cases q : k' = k ∧ p' = p
    · rw [if_pos ⟨by omega, q.2⟩, if_pos q]
    · rw [if_neg (fun z => q ⟨by omega, z.2⟩), if_neg q]; exact a6 k' p' q1 q2
  · rw [rd_wr, if_neg (by omega), rd_wr, if_neg (by omega), rd_wr, if_neg (by omega)]
    exact (a7 p' q1).2 j hj
theorem ite_and_rd {M : Mem} {i j i' j' : Nat} {v x : Int32} {k k' c c' : Nat} (hx : rd M i j = x) (hi : (i = i' ∧ j = j') ↔ (c = c' ∧ k = k')) : (if i = i' ∧ j = j' then v else rd M i j) = if c = c' ∧ k = k' then v else x := by
  by_cases q : i = i' ∧ j = j'
  · rw [if_pos q, if_pos (hi.mp q)]
  · rw [if_neg q, if_neg (fun z => q (hi.mpr z)), hx]
theorem RC_C {M : Mem} {w k c : Nat} {A : Ab} {v : Int32} (h : RC M w A) (h1 : k < 7) : RC (wr M (w + 1 + (k + 1)) c v) w (stC A c k v) := by
  obtain ⟨⟨a1, a2⟩, a3, a4, a5, a6, a7⟩ := h
  refine ⟨⟨by rw [rd_wr, if_neg (by omega)]; exact a1, fun c' hc => ?_⟩, by rw [rd_wr, if_neg (by omega)]; exact a3, fun k' q1 q2 => by rw [rd_wr, if_neg (by omega)]; exact a4 k' q1 q2, by rw [rd_wr, if_neg (by omega)]; exact a5, fun k' p' q1 q2 => by rw [rd_wr, if_neg (by omega)]; exact a6 k' p' q1 q2, fun p' q1 => ⟨by rw [rd_wr, if_neg (by omega)]; exact (a7 p' q1).1, fun j hj => ?_⟩⟩
  · obtain ⟨b0, b1, b2, b3, b4, b5, b6⟩ := a2 c' hc
    rw [rd_wr, rd_wr, rd_wr, rd_wr, rd_wr, rd_wr, rd_wr]
    exact ⟨ite_and_rd b0 (by omega), ite_and_rd b1 (by omega), ite_and_rd b2 (by omega), ite_and_rd b3 (by omega), ite_and_rd b4 (by omega), ite_and_rd b5 (by omega), ite_and_rd b6 (by omega)⟩
  · rw [rd_wr, if_neg (by omega), rd_wr, if_neg (by omega), rd_wr, if_neg (by omega)]
    exact (a7 p' q1).2 j hj
theorem RC_E {M M1 : Mem} {w p : Nat} {A : Ab} {L : List Ev} (h : RC M w A) (hp : p < 6) (hf : frm M M1 (w + 9 + 4 + 4 * p) (w + 9 + 4 + 4 * p + 4)) (hL : RWt M1 (w + 9 + 4 + 4 * p) L) : RC M1 w (stE A p L) := by
  obtain ⟨⟨a1, a2⟩, a3, a4, a5, a6, a7⟩ := h
  have hf := hf.1
  refine ⟨⟨by rw [hf _ _ (by omega)]; exact a1, fun c' hc => ?_⟩, by rw [hf _ _ (by omega)]; exact a3, fun k' q1 q2 => by rw [hf _ _ (by omega)]; exact a4 k' q1 q2, by rw [hf _ _ (by omega)]; exact a5, fun k' p' q1 q2 => by rw [hf _ _ (by omega)]; exact a6 k' p' q1 q2, fun p' q1 => ?_⟩
  · rw [hf _ _ (by omega), hf _ _ (by omega), hf _ _ (by omega), hf _ _ (by omega), hf _ _ (by omega), hf _ _ (by omega), hf _ _ (by omega)]
    exact a2 c' hc
  · rw [ev_stE]
    by_cases q : p' = p
    · subst q
      rw [if_pos rfl]
      exact hL
    · rw [if_neg q]
      refine ⟨by rw [hf _ _ (by omega)]; exact (a7 p' q1).1, fun j hj => ?_⟩
      rw [hf _ _ (by omega), hf _ _ (by omega), hf _ _ (by omega)]
      exact (a7 p' q1).2 j hj
-- the place where an event comes in
theorem fstIx_before {f : Nat → Bool} : ∀ {k i : Nat}, fstIx f k = some i → ∀ j, j < i → f j = false
  | 0, i, h => by cases h
  | k + 1, i, h => by
    rw [fstIx_step] at h
    cases hq : fstIx f k with
    | some j2 =>
      rw [hq] at h
      cases h
      exact fstIx_before hq
    | none =>
      rw [hq] at h
      have hn : ∀ j, j < k → f j = false := by
        intro j hj
        cases hf : f j with
        | false => rfl
        | true =>
          exfalso
          have : ∀ m, j < m → fstIx f m ≠ none := by
            intro m
            induction m with
            | zero => intro z; omega
            | succ m ih =>
              intro z hz
              rw [fstIx_step] at hz
              by_cases e : j = m
              · subst e
                cases hy : fstIx f j with
                | none => rw [hy] at hz; simp [hf] at hz
                | some y => rw [hy] at hz; cases hz
              · cases hy : fstIx f m with
                | none => exact ih (by omega) hy
                | some y => rw [hy] at hz; cases hz
          exact this k hj hq
      by_cases hf : f k = true
      · simp only [hf, if_true] at h
        cases h
        exact hn
      · simp only [hf] at h
        cases h
theorem fstIx_noneAll {f : Nat → Bool} {m : Nat} (h : fstIx f m = none) : ∀ j, j < m → f j = false := by
  intro j hj
  cases hf : f j with
  | false => rfl
  | true =>
    have h1 : fstIx f (m + 1) = if f m = true then some m else none := by rw [fstIx_step, h]
    by_cases hm : f m = true
    · rw [if_pos hm] at h1
      have := fstIx_before h1 j hj
      rw [hf] at this
      cases this
    · have h2 : fstIx (fun i => f i || decide (i = m)) (m + 1) = some m := by
        have h3 : ∀ k, k ≤ m → fstIx (fun i => f i || decide (i = m)) k = fstIx f k := by
          intro k
          induction k with
          | zero => intro _; rfl
          | succ k ih =>
            intro hk
            rw [fstIx_step, fstIx_step, ih (by omega)]
            have : decide (k = m) = false := decide_eq_false (by omega)
            simp [this]
        rw [fstIx_step, h3 m (Nat.le_refl _), h]
        simp
      have := fstIx_before h2 j hj
      simp [hf] at this
def posK (t b : Int32) (L : List Ev) : Nat := match fstIx (fun j => bhB (Eg L j) t b) L.length with
  | none => L.length
  | some j => j
theorem bhB_iff (y : Ev) (t b : Int32) : bhB y t b = true ↔ (t.toInt < y.1.toInt ∨ (y.1.toInt = t.toInt ∧ b.toInt < y.2.1.toInt)) := by
  unfold bhB
  rw [decide_eq_true_iff, Int32.lt_iff_toInt_lt, Int32.le_iff_toInt_le, ← Int32.toInt_inj]
  omega
theorem srt_Eg {L : List Ev} (h : srt L) {i j : Nat} (hij : i < j) (hj : j < L.length) : kLtB (Eg L i) (Eg L j) = true := by
  unfold srt at h
  rw [List.pairwise_iff_getElem] at h
  have h1 := h i j (by omega) hj hij
  unfold Eg
  rw [List.getD_eq_getElem?_getD, List.getD_eq_getElem?_getD, List.getElem?_eq_getElem (by omega), List.getElem?_eq_getElem hj]
  exact h1
theorem posK_ok {t b : Int32} {L : List Ev} (h : srt L) : posK t b L ≤ L.length ∧ (∀ j, j < posK t b L → bhB (Eg L j) t b = false) ∧ ∀ j, posK t b L ≤ j → j < L.length → bhB (Eg L j) t b = true := by
  unfold posK
  cases hq : fstIx (fun j => bhB (Eg L j) t b) L.length with
  | none => exact ⟨Nat.le_refl _, fun j hj => fstIx_noneAll hq j hj, fun j h1 h2 => absurd h2 (Nat.not_lt.mpr h1)⟩
  | some k =>
    obtain ⟨i1, i2⟩ := fstIx_lt hq
    refine ⟨Nat.le_of_lt i1, fun j hj => fstIx_before hq j hj, fun j h1 h2 => ?_⟩
    have h1 : k ≤ j := h1
    by_cases e : j = k
    · rw [e]; exact i2
    · have h3 := srt_Eg h (show k < j by omega) h2
      rw [kLtB_iff] at h3
      have i2 := (bhB_iff _ _ _).mp i2
      rw [bhB_iff]
      omega
theorem Eg_mem {L : List Ev} {j : Nat} (h : j < L.length) : Eg L j ∈ L := by
  unfold Eg
  rw [List.getD_eq_getElem?_getD, List.getElem?_eq_getElem h]
  exact List.getElem_mem h
theorem Eg_of_mem {L : List Ev} {x : Ev} (h : x ∈ L) : ∃ e, e < L.length ∧ Eg L e = x := by
  obtain ⟨e, he, hx⟩ := List.getElem_of_mem h
  refine ⟨e, he, ?_⟩
  unfold Eg
  rw [List.getD_eq_getElem?_getD, List.getElem?_eq_getElem he]
  exact hx
theorem srt_of_Eg {L : List Ev} (h : ∀ i j, i < j → j < L.length → kLtB (Eg L i) (Eg L j) = true) : srt L := by
  unfold srt
  rw [List.pairwise_iff_getElem]
  intro i j hi hj hij
  have h1 := h i j hij hj
  unfold Eg at h1
  rw [List.getD_eq_getElem?_getD, List.getD_eq_getElem?_getD, List.getElem?_eq_getElem hi, List.getElem?_eq_getElem hj] at h1
  exact h1
theorem srt_ins {t b o v : Int32} {L : List Ev} (h : srt L) (ho : ∀ y ∈ L, y.2.2.1.toInt < o.toInt) : srt (insK (posK t b L) (t, b, o, v) L) := by
  obtain ⟨h1, h2, h3⟩ := posK_ok (t := t) (b := b) h
  refine srt_of_Eg (fun i j hij hj => ?_)
  rw [insK_len h1] at hj
  rw [Eg_insK h1, Eg_insK h1]
  by_cases c1 : j < posK t b L
  · rw [if_pos (by omega), if_pos c1]
    exact srt_Eg h hij (by omega)
  · rw [if_neg c1]
    by_cases c2 : j = posK t b L
    · rw [if_pos c2, if_pos (by omega)]
      have q := h2 i (by omega)
      have qo := ho _ (Eg_mem (L := L) (j := i) (by omega))
      have q : ¬ bhB (Eg L i) t b = true := by rw [q]; decide
      rw [bhB_iff] at q
      rw [kLtB_iff]
      show (Eg L i).1.toInt < t.toInt ∨ ((Eg L i).1.toInt = t.toInt ∧ ((Eg L i).2.1.toInt < b.toInt ∨ ((Eg L i).2.1.toInt = b.toInt ∧ (Eg L i).2.2.1.toInt < o.toInt)))
      omega
    · rw [if_neg c2]
      have hx : kLtB (t, b, o, v) (Eg L (j - 1)) = true := by
        have q := (bhB_iff _ _ _).mp (h3 (j - 1) (by omega) (by omega))
        rw [kLtB_iff]
        show t.toInt < (Eg L (j - 1)).1.toInt ∨ (t.toInt = (Eg L (j - 1)).1.toInt ∧ (b.toInt < (Eg L (j - 1)).2.1.toInt ∨ (b.toInt = (Eg L (j - 1)).2.1.toInt ∧ o.toInt < (Eg L (j - 1)).2.2.1.toInt)))
        omega
      by_cases c3 : i < posK t b L
      · rw [if_pos c3]
        by_cases c4 : i < j - 1
        · exact srt_Eg h c4 (by omega)
        · omega
      · rw [if_neg c3]
        by_cases c5 : i = posK t b L
        · rw [if_pos c5]; exact hx
        · rw [if_neg c5]
          exact srt_Eg h (show i - 1 < j - 1 by omega) (by omega)
