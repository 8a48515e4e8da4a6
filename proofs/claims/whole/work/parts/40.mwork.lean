/-! a part works on an event: the model -/
def frmR (M M1 : Mem) (r : Nat) : Prop := (∀ i j, i ≠ 158 ∨ j < r ∨ r + 262 ≤ j → rd M1 i j = rd M i j) ∧ M1.2 = M.2
theorem frmR_rf {M : Mem} {r : Nat} : frmR M M r := ⟨fun _ _ _ => rfl, rfl⟩
theorem frmR_tr {M M1 M2 : Mem} {r : Nat} (h1 : frmR M M1 r) (h2 : frmR M1 M2 r) : frmR M M2 r := ⟨fun i j h => (h2.1 i j h).trans (h1.1 i j h), h2.2.trans h1.2⟩
theorem frmR_w {M M1 : Mem} {r k : Nat} {v : Int32} (e : M1 = wr M 158 k v) (h1 : r ≤ k) (h2 : k < r + 262) : frmR M M1 r := by
  rw [e]
  exact ⟨fun i j h => by rw [rd_wr, if_neg (by omega)], rfl⟩
theorem x5_comes {M : Mem} {r : Nat} {A : Ab} {B : Bg} (h : RM M r A B) (hC : nC A ≤ 12) (hl : B.length < 30) (hr : r ≤ 786) (q : Nat) (t b v : Int32) : ∃ M1, f_X5_comes M 157 (nI r) (nI q) t b v = some M1 ∧ RM M1 r (stN A (nP A) (nC A) (nH A) (nA A + 1)) (B ++ [(q, (t, b, nI (nA A), v))]) ∧ frmR M M1 r := by
  obtain ⟨M1, e1⟩ : ∃ M1, M1 = wr M 158 (r + 112 + 5 * B.length + 0) (nI q) := ⟨_, rfl⟩
  obtain ⟨M2, e2⟩ : ∃ M2, M2 = wr M1 158 (r + 112 + 5 * B.length + 1) t := ⟨_, rfl⟩
  obtain ⟨M3, e3⟩ : ∃ M3, M3 = wr M2 158 (r + 112 + 5 * B.length + 2) b := ⟨_, rfl⟩
  obtain ⟨M4, e4⟩ : ∃ M4, M4 = wr M3 158 (r + 112 + 5 * B.length + 3) v := ⟨_, rfl⟩
  obtain ⟨M5, e5⟩ : ∃ M5, M5 = wr M4 158 (r + 112 + 5 * B.length + 4) (nI (nA A)) := ⟨_, rfl⟩
  obtain ⟨M6, e6⟩ : ∃ M6, M6 = wr M5 158 (r + 8) (nI (nA A + 1)) := ⟨_, rfl⟩
  obtain ⟨M7, e7⟩ : ∃ M7, M7 = wr M6 158 (r + 9) (nI (B.length + 1)) := ⟨_, rfl⟩
  have r0 : rd M 158 (r + 9) = nI B.length := h.2.2.2.2.2.2.1
  have r4 : rd M4 158 (r + 8) = nI (nA A) := by
    rw [e4, rd_wr, if_neg (by omega), e3, rd_wr, if_neg (by omega), e2, rd_wr, if_neg (by omega), e1, rd_wr, if_neg (by omega)]
    exact h.2.2.2.2.1
  have r5 : rd M5 158 (r + 8) = nI (nA A) := by rw [e5, rd_wr, if_neg (by omega), r4]
  have r6 : rd M6 158 (r + 9) = nI B.length := by
    rw [e6, rd_wr, if_neg (by omega), e5, rd_wr, if_neg (by omega), e4, rd_wr, if_neg (by omega), e3, rd_wr, if_neg (by omega), e2, rd_wr, if_neg (by omega), e1, rd_wr, if_neg (by omega), r0]
  have hrd : ∀ j, j ≠ r + 8 → j ≠ r + 9 → (j < r + 112 + 5 * B.length ∨ r + 112 + 5 * B.length + 5 ≤ j) → rd M7 158 j = rd M 158 j := by
    intro j h1 h2 h3
    rw [e7, rd_wr, if_neg (by omega), e6, rd_wr, if_neg (by omega), e5, rd_wr, if_neg (by omega), e4, rd_wr, if_neg (by omega), e3, rd_wr, if_neg (by omega), e2, rd_wr, if_neg (by omega), e1, rd_wr, if_neg (by omega)]
  refine ⟨M7, ?_, ?_, frmR_tr (frmR_w e1 (by omega) (by omega)) (frmR_tr (frmR_w e2 (by omega) (by omega)) (frmR_tr (frmR_w e3 (by omega) (by omega)) (frmR_tr (frmR_w e4 (by omega) (by omega)) (frmR_tr (frmR_w e5 (by omega) (by omega)) (frmR_tr (frmR_w e6 (by omega) (by omega)) (frmR_w e7 (by omega) (by omega)))))))⟩
  · unfold f_X5_comes
    simp (disch := omega) only [lit_nI, nI_add, ck_nI, cl_nI, r0, pk_mul]
    rw [nm_to rfl]
    simp (disch := omega) only [lit_nI, nI_add, ck_nI, cl_nI]
    rw [nm_to e1, nm_to e2, nm_to e3, nm_to e4, r4, nm_to e5]
    simp (disch := omega) only [nm, ck_nI, cl_nI, r5, nI_add]
    rw [← e6, r6, nI_add, ← e7]
  · obtain ⟨⟨a1, a2⟩, a3, a4, a5, a6, a7, a8, a9⟩ := h
    refine ⟨⟨by rw [hrd _ (by omega) (by omega) (by omega)]; exact a1, fun c' k' q1 q2 => ?_⟩, by rw [hrd _ (by omega) (by omega) (by omega)]; exact a3, fun k' q1 q2 => by rw [hrd _ (by omega) (by omega) (by omega)]; exact a4 k' q1 q2, by rw [hrd _ (by omega) (by omega) (by omega)]; exact a5, ?_, fun p' hp => ?_, ?_, fun e' he' => ?_⟩
    · have q1 : c' < nC A := q1
      rw [hrd _ (by omega) (by omega) (by omega)]
      exact a2 c' k' q1 q2
    · rw [e7, rd_wr, if_neg (by omega), e6, rd_wr, if_pos ⟨rfl, rfl⟩]
      rfl
    · rw [hrd _ (by omega) (by omega) (by omega), hrd _ (by omega) (by omega) (by omega), hrd _ (by omega) (by omega) (by omega)]
      exact a7 p' hp
    · rw [e7, rd_wr, if_pos ⟨rfl, rfl⟩, List.length_append]
      rfl
    · rw [List.length_append] at he'
      have he' : e' < B.length + 1 := he'
      by_cases c : e' < B.length
      · have hB : Bt (B ++ [(q, (t, b, nI (nA A), v))]) e' = Bt B e' := by
          unfold Bt
          rw [List.getD_eq_getElem?_getD, List.getD_eq_getElem?_getD, List.getElem?_append_left c]
        rw [hB, hrd _ (by omega) (by omega) (by omega), hrd _ (by omega) (by omega) (by omega), hrd _ (by omega) (by omega) (by omega), hrd _ (by omega) (by omega) (by omega), hrd _ (by omega) (by omega) (by omega)]
        exact a9 e' c
      · have ce : e' = B.length := by omega
        subst ce
        have hB : Bt (B ++ [(q, (t, b, nI (nA A), v))]) B.length = (q, (t, b, nI (nA A), v)) := by
          unfold Bt
          rw [List.getD_eq_getElem?_getD, List.getElem?_append_right (Nat.le_refl _), Nat.sub_self]
          rfl
        rw [hB]
        refine ⟨?_, ?_, ?_, ?_, ?_⟩
        · rw [e7, rd_wr, if_neg (by omega), e6, rd_wr, if_neg (by omega), e5, rd_wr, if_neg (by omega), e4, rd_wr, if_neg (by omega), e3, rd_wr, if_neg (by omega), e2, rd_wr, if_neg (by omega), e1, rd_wr, if_pos ⟨rfl, rfl⟩]
        · rw [e7, rd_wr, if_neg (by omega), e6, rd_wr, if_neg (by omega), e5, rd_wr, if_neg (by omega), e4, rd_wr, if_neg (by omega), e3, rd_wr, if_neg (by omega), e2, rd_wr, if_pos ⟨rfl, rfl⟩]
        · rw [e7, rd_wr, if_neg (by omega), e6, rd_wr, if_neg (by omega), e5, rd_wr, if_neg (by omega), e4, rd_wr, if_neg (by omega), e3, rd_wr, if_pos ⟨rfl, rfl⟩]
        · rw [e7, rd_wr, if_neg (by omega), e6, rd_wr, if_neg (by omega), e5, rd_wr, if_neg (by omega), e4, rd_wr, if_pos ⟨rfl, rfl⟩]
        · rw [e7, rd_wr, if_neg (by omega), e6, rd_wr, if_neg (by omega), e5, rd_wr, if_pos ⟨rfl, rfl⟩]
theorem place_ex {f : Nat → Bool} {pl : Nat} : ∀ {m : Nat}, pl < pCnt f m → ∃ c, c < m ∧ f c = true ∧ pCnt f c = pl
  | 0, h => absurd h (by show ¬ pl < 0; omega)
  | m + 1, h => by
    have h : pl < pCnt f m + (if f m = true then 1 else 0) := h
    by_cases c : pl < pCnt f m
    · obtain ⟨i, h1, h2, h3⟩ := place_ex c
      exact ⟨i, by omega, h2, h3⟩
    · by_cases hf : f m = true
      · rw [if_pos hf] at h
        exact ⟨m, by omega, hf, by omega⟩
      · rw [if_neg hf] at h
        omega
theorem jmax_eq {x y : Int32} : (if y ≤ x then x else y) = jmax x y := by
  unfold jmax
  by_cases c : x < y
  · rw [if_pos c, if_neg (fun q => by rw [Int32.lt_iff_toInt_lt] at c; rw [Int32.le_iff_toInt_le] at q; omega)]
  · rw [if_neg c, if_pos (by rw [Int32.lt_iff_toInt_lt] at c; rw [Int32.le_iff_toInt_le]; omega)]
theorem insK_perm {k : Nat} {x : Ev} {L : List Ev} : List.Perm (insK k x L) (x :: L) := by
  unfold insK
  refine List.perm_middle.trans (List.Perm.cons _ ?_)
  rw [List.take_append_drop]
theorem BgOK_come {B : Bg} {A : Ab} {c : Nat} {t v : Int32} (h : BgOK B A) : BgOK (B ++ [(toN A c, (t, nI c, nI (nA A), v))]) (comeA A c t v) := by
  intro q
  show List.Perm (ofP (B ++ [(toN A c, (t, nI c, nI (nA A), v))]) q) (if q = toN A c then insK (posK t (nI c) (ev A (toN A c))) (t, nI c, nI (nA A), v) (ev A (toN A c)) else ev A q)
  by_cases e : q = toN A c
  · rw [if_pos e, ← e]
    have h1 : ofP (B ++ [(q, (t, nI c, nI (nA A), v))]) q = ofP B q ++ [(t, nI c, nI (nA A), v)] := by simp [ofP]
    rw [h1]
    exact (List.perm_append_singleton _ _).trans ((List.Perm.cons _ (h q)).trans insK_perm.symm)
  · rw [if_neg e]
    have h1 : ofP (B ++ [(toN A c, (t, nI c, nI (nA A), v))]) q = ofP B q := by
      have : (toN A c == q) = false := by simpa using fun z => e z.symm
      simp [ofP, this]
    rw [h1]
    exact h q
