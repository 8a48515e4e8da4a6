/-! a Waiting: taking the first away, putting one in -/
theorem rd_cp {M : Mem} {i0 i1 sp dp n j q : Nat} : rd (cpM M i0 i1 sp dp n) j q = if j = i1 then (if dp ≤ q ∧ q < dp + n then rd M i0 (sp + (q - dp)) else rd M i1 q) else rd M j q := by
  unfold rd cpM va_cpy
  by_cases h : j = i1 <;> simp [h]
theorem cpk_ok {α : Type} {sp dp n n0 n1 : Nat} {X : Option α} (h1 : sp + n ≤ n0) (h2 : dp + n ≤ n1) (h0 : n0 < 2147483648) (h3 : n1 < 2147483648) : cpk (nI sp) (nI dp) (nI n) n0 n1 X = X := by
  unfold cpk
  rw [cl_nI (by omega), cl_nI (by omega), cl_nI (by omega), if_neg]
  rintro (q | q | q | q | q)
  · exact nI_pos (by omega) q
  · exact nI_pos (by omega) q
  · exact nI_pos (by omega) q
  · omega
  · omega
/-- nothing changed but in the cells lo .. hi-1 -/
def frm (M M1 : Mem) (lo hi : Nat) : Prop := (∀ i j, i < lo ∨ hi ≤ i → rd M1 i j = rd M i j) ∧ M1.2 = M.2
theorem frm_rf {M : Mem} {lo hi : Nat} : frm M M lo hi := ⟨fun _ _ _ => rfl, rfl⟩
theorem frm_tr {M M1 M2 : Mem} {lo hi : Nat} (h1 : frm M M1 lo hi) (h2 : frm M1 M2 lo hi) : frm M M2 lo hi := ⟨fun i j h => (h2.1 i j h).trans (h1.1 i j h), h2.2.trans h1.2⟩
theorem frm_wd {M M1 : Mem} {lo hi lo2 hi2 : Nat} (h : frm M M1 lo hi) (h1 : lo2 ≤ lo) (h2 : hi ≤ hi2) : frm M M1 lo2 hi2 := ⟨fun i j q => h.1 i j (by omega), h.2⟩
theorem frm_wr {M : Mem} {lo hi i k : Nat} {v : Int32} (h1 : lo ≤ i) (h2 : i < hi) : frm M (wr M i k v) lo hi := ⟨fun j q h => by rw [rd_wr, if_neg (by omega)], rfl⟩
theorem frm_cp {M : Mem} {lo hi i0 i sp dp n : Nat} (h1 : lo ≤ i) (h2 : i < hi) : frm M (cpM M i0 i sp dp n) lo hi := ⟨fun j q h => by rw [rd_cp, if_neg (by omega)], rfl⟩
theorem nm_to {α β : Type} {x e : α} {k : α → β} (h : x = e) : nm e k = k x := by rw [h]; rfl
theorem Eg_cons {x : Ev} {L : List Ev} {j : Nat} : Eg (x :: L) (j + 1) = Eg L j := rfl
theorem x2_removeFirst {M : Mem} {e : Nat} {x : Ev} {L : List Ev} (h : RWt M e (x :: L)) (hl : (x :: L).length ≤ 30) : ∃ M1, f_X2_removeFirst M e = some M1 ∧ RWt M1 e L ∧ frm M M1 e (e + 4) := by
  have hl : L.length + 1 ≤ 30 := hl
  have h1 : rd M e 3 = nI (L.length + 1) := h.1
  have hne : ¬ nI (L.length + 1) = 0 := nI_ne0 (by omega) (by omega)
  obtain ⟨M2, e2⟩ : ∃ M2, M2 = wr M e 3 (nI L.length) := ⟨_, rfl⟩
  have r2 : rd M2 e 3 = nI L.length := by rw [e2, rd_wr, if_pos ⟨rfl, rfl⟩]
  obtain ⟨M4, e4⟩ : ∃ M4, M4 = cpM M2 (e + 1) (e + 1) 1 0 L.length := ⟨_, rfl⟩
  have r4 : rd M4 e 3 = nI L.length := by rw [e4, rd_cp, if_neg (by omega), r2]
  obtain ⟨M6, e6⟩ : ∃ M6, M6 = cpM M4 (e + 2) (e + 2) 1 0 L.length := ⟨_, rfl⟩
  have r6 : rd M6 e 3 = nI L.length := by rw [e6, rd_cp, if_neg (by omega), r4]
  obtain ⟨M8, e8⟩ : ∃ M8, M8 = cpM M6 (e + 3) (e + 3) 1 0 L.length := ⟨_, rfl⟩
  have r8 : rd M8 e 3 = nI L.length := by rw [e8, rd_cp, if_neg (by omega), r6]
  refine ⟨M8, ?_, ⟨r8, fun j hj => ?_⟩, ?_⟩
  · have ep : nI (L.length + 1) - nI 1 = nI L.length := nI_pred _
    have q1 : (1 : Int32) = nI 1 := rfl
    have q0 : (0 : Int32) = nI 0 := rfl
    unfold f_X2_removeFirst
    rw [h1, if_neg hne, q1, ep, q0]
    rw [nm_to e2, r2, cpk_ok (by omega) (by omega) (by omega) (by omega), cl_nI (by omega), cl_nI (by omega), cl_nI (by omega), nm_to e4, r4, cpk_ok (by omega) (by omega) (by omega) (by omega), cl_nI (by omega), nm_to e6, r6, cpk_ok (by omega) (by omega) (by omega) (by omega), cl_nI (by omega), nm_to e8]
  · obtain ⟨a1, a2, a3⟩ := h.2 (j + 1) (by show j + 1 < L.length + 1; omega)
    rw [Eg_cons] at a1 a2 a3
    have s1 : rd M8 (e + 1) j = rd M (e + 1) (j + 1) := by
      rw [e8, rd_cp, if_neg (by omega), e6, rd_cp, if_neg (by omega), e4, rd_cp, if_pos rfl, if_pos (by omega), e2, rd_wr, if_neg (by omega)]
      congr 1
      omega
    have s2 : rd M8 (e + 2) j = rd M (e + 2) (j + 1) := by
      rw [e8, rd_cp, if_neg (by omega), e6, rd_cp, if_pos rfl, if_pos (by omega), e4, rd_cp, if_neg (by omega), e2, rd_wr, if_neg (by omega)]
      congr 1
      omega
    have s3 : rd M8 (e + 3) j = rd M (e + 3) (j + 1) := by
      rw [e8, rd_cp, if_pos rfl, if_pos (by omega), e6, rd_cp, if_neg (by omega), e4, rd_cp, if_neg (by omega), e2, rd_wr, if_neg (by omega)]
      congr 1
      omega
    exact ⟨s1.trans a1, s2.trans a2, s3.trans a3⟩
  · rw [e8, e6, e4, e2]
    exact frm_tr (frm_wr (by omega) (by omega)) (frm_tr (frm_cp (by omega) (by omega)) (frm_tr (frm_cp (by omega) (by omega)) (frm_cp (by omega) (by omega))))
/-- y stands behind x -/
def bhB (y : Ev) (t b : Int32) : Bool := decide (t < y.1 ∨ (y.1 = t ∧ ¬ y.2.1 ≤ b))
theorem x2_isBehind {M : Mem} {e : Nat} {t b : Int32} {j : Nat} {y : Ev} (hj : j < 30) (a1 : rd M (e + 1) j = y.1) (a3 : rd M (e + 3) j = y.2.1) : f_X2_isBehind M e (nI j) t b = some (bI (bhB y t b)) := by
  unfold f_X2_isBehind bhB
  rw [ck_nI (by omega) (by omega), ck_nI (by omega) (by omega), ck_nI (by omega) (by omega), cl_nI (by omega), a1, a3]
  by_cases h1 : t < y.1
  · rw [if_pos h1, decide_eq_true (Or.inl h1)]; rfl
  · rw [if_neg h1]
    by_cases h2 : y.1 = t
    · rw [if_pos h2]
      by_cases h3 : y.2.1 ≤ b
      · rw [if_pos h3, decide_eq_false (fun q => q.elim h1 (fun q => q.2 h3))]; rfl
      · rw [if_neg h3, decide_eq_true (Or.inr ⟨h2, h3⟩)]; rfl
    · rw [if_neg h2, decide_eq_false (fun q => q.elim h1 (fun q => h2 q.1))]; rfl
def insK (k : Nat) (x : Ev) (L : List Ev) : List Ev := L.take k ++ x :: L.drop k
theorem insK_len {k : Nat} {x : Ev} {L : List Ev} (h : k ≤ L.length) : (insK k x L).length = L.length + 1 := by
  unfold insK
  simp
  omega
theorem Eg_insK {k : Nat} {x : Ev} {L : List Ev} (h : k ≤ L.length) (j : Nat) : Eg (insK k x L) j = if j < k then Eg L j else if j = k then x else Eg L (j - 1) := by
  unfold Eg insK
  rw [List.getD_eq_getElem?_getD, List.getD_eq_getElem?_getD, List.getD_eq_getElem?_getD]
  by_cases h1 : j < k
  · rw [if_pos h1, List.getElem?_append_left (by simp; omega), List.getElem?_take_of_lt h1]
  · rw [if_neg h1, List.getElem?_append_right (by simp; omega)]
    have hl : (L.take k).length = k := by simp; omega
    rw [hl]
    by_cases h2 : j = k
    · rw [if_pos h2, h2, Nat.sub_self]
      rfl
    · rw [if_neg h2]
      obtain ⟨d, hd⟩ : ∃ d, j - k = d + 1 := ⟨j - k - 1, by omega⟩
      rw [hd, List.getElem?_cons_succ, List.getElem?_drop]
      congr 2
      omega
theorem x2_add {M : Mem} {e : Nat} {L : List Ev} (h : RWt M e L) (hl : L.length < 30) {t b o v : Int32} {k : Nat} (hk : k ≤ L.length) (hb0 : ∀ j, j < k → bhB (Eg L j) t b = false) (hb1 : ∀ j, k ≤ j → j < L.length → bhB (Eg L j) t b = true) : ∃ M1, f_X2_add M e t v b = some M1 ∧ RWt M1 e (insK k (t, b, o, v) L) ∧ frm M M1 e (e + 4) := by
  have key : ∀ d n at_ (N : Mem), at_ = k + d → at_ ≤ L.length → d < n → frm M N e (e + 4) → rd N e 3 = nI L.length →
      (∀ j, j < at_ → rd N (e + 1) j = (Eg L j).1 ∧ rd N (e + 2) j = (Eg L j).2.2.2 ∧ rd N (e + 3) j = (Eg L j).2.1) →
      (∀ j, at_ < j → j ≤ L.length → rd N (e + 1) j = (Eg L (j - 1)).1 ∧ rd N (e + 2) j = (Eg L (j - 1)).2.2.2 ∧ rd N (e + 3) j = (Eg L (j - 1)).2.1) →
      ∃ M1, f_X2_add_L16 e t v b n N (nI at_) = some M1 ∧ RWt M1 e (insK k (t, b, o, v) L) ∧ frm M M1 e (e + 4) := by
    intro d
    induction d with
    | zero =>
      intro n at_ N ha hal hn hf hsz hlo hhi
      obtain ⟨n, rfl⟩ : ∃ n', n = n' + 1 := ⟨n - 1, by omega⟩
      have hak : at_ = k := by omega
      subst hak
      have h88 : f_X2_add_L16 e t v b (n + 1) N (nI at_) = f_X2_add_L88 N e t v b (nI at_) := by
        rw [f_X2_add_L16]
        by_cases h0 : at_ = 0
        · subst h0
          rw [if_pos (show nI 0 ≤ 0 from Int32.le_refl _)]
        · have hp : nI at_ - 1 = nI (at_ - 1) := by
            obtain ⟨q, rfl⟩ : ∃ q, at_ = q + 1 := ⟨at_ - 1, by omega⟩
            exact nI_pred q
          obtain ⟨a1, -, a3⟩ := hlo (at_ - 1) (by omega)
          rw [if_neg (nI_nle (by omega) (by omega)), hp, x2_isBehind (by omega) a1 a3, hb0 (at_ - 1) (by omega)]
          rfl
      obtain ⟨N1, e1⟩ : ∃ N1, N1 = wr N (e + 1) at_ t := ⟨_, rfl⟩
      obtain ⟨N2, e2⟩ : ∃ N2, N2 = wr N1 (e + 2) at_ v := ⟨_, rfl⟩
      obtain ⟨N3, e3⟩ : ∃ N3, N3 = wr N2 (e + 3) at_ b := ⟨_, rfl⟩
      obtain ⟨N4, e4⟩ : ∃ N4, N4 = wr N3 e 3 (nI (L.length + 1)) := ⟨_, rfl⟩
      have r3 : rd N3 e 3 = nI L.length := by rw [e3, rd_wr, if_neg (by omega), e2, rd_wr, if_neg (by omega), e1, rd_wr, if_neg (by omega), hsz]
      refine ⟨N4, ?_, ⟨?_, fun j hj => ?_⟩, ?_⟩
      · rw [h88]
        unfold f_X2_add_L88
        rw [ck_nI (by omega) (by omega), cl_nI (by omega), nm_to e1, ck_nI (by omega) (by omega), nm_to e2, ck_nI (by omega) (by omega), nm_to e3, r3, nI_1, nm_to e4]
      · rw [e4, rd_wr, if_pos ⟨rfl, rfl⟩, insK_len hk]
      · rw [insK_len hk] at hj
        have s1 : rd N4 (e + 1) j = if j = at_ then t else rd N (e + 1) j := by
          rw [e4, rd_wr, if_neg (by omega), e3, rd_wr, if_neg (by omega), e2, rd_wr, if_neg (by omega), e1, rd_wr]
          by_cases c : j = at_
          · rw [if_pos ⟨rfl, c⟩, if_pos c]
          · rw [if_neg (fun q => c q.2), if_neg c]
        have s2 : rd N4 (e + 2) j = if j = at_ then v else rd N (e + 2) j := by
          rw [e4, rd_wr, if_neg (by omega), e3, rd_wr, if_neg (by omega), e2, rd_wr]
          by_cases c : j = at_
          · rw [if_pos ⟨rfl, c⟩, if_pos c]
          · rw [if_neg (fun q => c q.2), if_neg c, e1, rd_wr, if_neg (by omega)]
        have s3 : rd N4 (e + 3) j = if j = at_ then b else rd N (e + 3) j := by
          rw [e4, rd_wr, if_neg (by omega), e3, rd_wr]
          by_cases c : j = at_
          · rw [if_pos ⟨rfl, c⟩, if_pos c]
          · rw [if_neg (fun q => c q.2), if_neg c, e2, rd_wr, if_neg (by omega), e1, rd_wr, if_neg (by omega)]
        rw [Eg_insK hk, s1, s2, s3]
        by_cases c1 : j < at_
        · have c9 : ¬ j = at_ := by omega
          rw [if_pos c1, if_neg c9, if_neg c9, if_neg c9]
          exact hlo j c1
        · by_cases c2 : j = at_
          · rw [if_pos c2, if_pos c2, if_pos c2, if_neg c1, if_pos c2]
            exact ⟨rfl, rfl, rfl⟩
          · rw [if_neg c2, if_neg c2, if_neg c2, if_neg c1, if_neg c2]
            exact hhi j (by omega) (by omega)
      · rw [e4, e3, e2, e1]
        exact frm_tr hf (frm_tr (frm_wr (by omega) (by omega)) (frm_tr (frm_wr (by omega) (by omega)) (frm_tr (frm_wr (by omega) (by omega)) (frm_wr (by omega) (by omega)))))
    | succ d ih =>
      intro n at_ N ha hal hn hf hsz hlo hhi
      obtain ⟨n, rfl⟩ : ∃ n', n = n' + 1 := ⟨n - 1, by omega⟩
      obtain ⟨q, rfl⟩ : ∃ q, at_ = q + 1 := ⟨at_ - 1, by omega⟩
      have hp : nI (q + 1) - 1 = nI q := nI_pred q
      have hm : nI (q + 1) + (-1) = nI q := pk_m1 q
      obtain ⟨a1, a2, a3⟩ := hlo q (by omega)
      obtain ⟨N1, e1⟩ : ∃ N1, N1 = wr N (e + 1) (q + 1) (rd N (e + 1) q) := ⟨_, rfl⟩
      obtain ⟨N2, e2⟩ : ∃ N2, N2 = wr N1 (e + 2) (q + 1) (rd N1 (e + 2) q) := ⟨_, rfl⟩
      obtain ⟨N3, e3⟩ : ∃ N3, N3 = wr N2 (e + 3) (q + 1) (rd N2 (e + 3) q) := ⟨_, rfl⟩
      have hh : f_X2_add_L16 e t v b (n + 1) N (nI (q + 1)) = f_X2_add_L16 e t v b n N3 (nI q) := by
        rw [f_X2_add_L16, if_neg (nI_nle (by omega) (by omega)), hp, x2_isBehind (by omega) a1 a3, hb1 q (by omega) (by omega)]
        have h1 : ¬ (1 : Int32) = 0 := by decide
        simp only [bd, bI_t, h1, if_false]
        rw [ck_nI (by omega) (by omega), ck_nI (by omega) (by omega), cl_nI (by omega), cl_nI (by omega), nm_to e1, ck_nI (by omega) (by omega), ck_nI (by omega) (by omega), nm_to e2, ck_nI (by omega) (by omega), ck_nI (by omega) (by omega), nm_to e3, hm]
        rfl
      rw [hh]
      refine ih n q N3 (by omega) (by omega) (by omega) ?_ ?_ ?_ ?_
      · rw [e3, e2, e1]
        exact frm_tr hf (frm_tr (frm_wr (by omega) (by omega)) (frm_tr (frm_wr (by omega) (by omega)) (frm_wr (by omega) (by omega))))
      · rw [e3, rd_wr, if_neg (by omega), e2, rd_wr, if_neg (by omega), e1, rd_wr, if_neg (by omega), hsz]
      · intro j hj
        obtain ⟨c1, c2, c3⟩ := hlo j (by omega)
        refine ⟨?_, ?_, ?_⟩
        · rw [e3, rd_wr, if_neg (by omega), e2, rd_wr, if_neg (by omega), e1, rd_wr, if_neg (by omega), c1]
        · rw [e3, rd_wr, if_neg (by omega), e2, rd_wr, if_neg (by omega), e1, rd_wr, if_neg (by omega), c2]
        · rw [e3, rd_wr, if_neg (by omega), e2, rd_wr, if_neg (by omega), e1, rd_wr, if_neg (by omega), c3]
      · intro j hj hj2
        by_cases c0 : j = q + 1
        · subst c0
          refine ⟨?_, ?_, ?_⟩
          · rw [e3, rd_wr, if_neg (by omega), e2, rd_wr, if_neg (by omega), e1, rd_wr, if_pos ⟨rfl, rfl⟩, a1]
            rfl
          · rw [e3, rd_wr, if_neg (by omega), e2, rd_wr, if_pos ⟨rfl, rfl⟩, e1, rd_wr, if_neg (by omega), a2]
            rfl
          · rw [e3, rd_wr, if_pos ⟨rfl, rfl⟩, e2, rd_wr, if_neg (by omega), e1, rd_wr, if_neg (by omega), a3]
            rfl
        · obtain ⟨c1, c2, c3⟩ := hhi j (by omega) hj2
          refine ⟨?_, ?_, ?_⟩
          · rw [e3, rd_wr, if_neg (by omega), e2, rd_wr, if_neg (by omega), e1, rd_wr, if_neg (by omega), c1]
          · rw [e3, rd_wr, if_neg (by omega), e2, rd_wr, if_neg (by omega), e1, rd_wr, if_neg (by omega), c2]
          · rw [e3, rd_wr, if_neg (by omega), e2, rd_wr, if_neg (by omega), e1, rd_wr, if_neg (by omega), c3]
  have hlt : rd M e 3 < 30 := by rw [h.1]; exact nI_lt (b := 30) hl (by omega)
  unfold f_X2_add
  rw [if_pos hlt, h.1]
  exact key (L.length - k) 1000 L.length M (by omega) (Nat.le_refl _) (by omega) frm_rf h.1 (fun j hj => h.2 j hj) (fun j h1 h2 => absurd h1 (by omega))
