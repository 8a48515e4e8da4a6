/-! the model's events: a bag -/
abbrev Bg : Type := List (Nat × Ev)
def Bt (B : Bg) (e : Nat) : Nat × Ev := B.getD e (0, (0, 0, 0, 0))
def RMb (M : Mem) (r : Nat) (B : Bg) : Prop := rd M 158 (r + 9) = nI B.length ∧ ∀ e, e < B.length → rd M 158 (r + 112 + 5 * e + 0) = nI (Bt B e).1 ∧ rd M 158 (r + 112 + 5 * e + 1) = (Bt B e).2.1 ∧ rd M 158 (r + 112 + 5 * e + 2) = (Bt B e).2.2.1 ∧ rd M 158 (r + 112 + 5 * e + 3) = (Bt B e).2.2.2.2 ∧ rd M 158 (r + 112 + 5 * e + 4) = (Bt B e).2.2.2.1
def kLtB (x y : Ev) : Bool := if x.1 = y.1 then (if x.2.1 = y.2.1 then decide (¬ y.2.2.1 ≤ x.2.2.1) else decide (¬ y.2.1 ≤ x.2.1)) else decide (¬ y.1 ≤ x.1)
theorem kLtB_iff (x y : Ev) : kLtB x y = true ↔ (x.1.toInt < y.1.toInt ∨ (x.1.toInt = y.1.toInt ∧ (x.2.1.toInt < y.2.1.toInt ∨ (x.2.1.toInt = y.2.1.toInt ∧ x.2.2.1.toInt < y.2.2.1.toInt)))) := by
  unfold kLtB
  by_cases h1 : x.1 = y.1
  · rw [if_pos h1, h1]
    by_cases h2 : x.2.1 = y.2.1
    · rw [if_pos h2, h2, decide_eq_true_iff, Int32.le_iff_toInt_le]
      omega
    · have h3 : ¬ x.2.1.toInt = y.2.1.toInt := fun e => h2 (Int32.toInt_inj.mp e)
      rw [if_neg h2, decide_eq_true_iff, Int32.le_iff_toInt_le]
      omega
  · have h3 : ¬ x.1.toInt = y.1.toInt := fun e => h1 (Int32.toInt_inj.mp e)
    rw [if_neg h1, decide_eq_true_iff, Int32.le_iff_toInt_le]
    omega
theorem kLtB_trans {x y z : Ev} (h1 : kLtB x y = true) (h2 : kLtB y z = true) : kLtB x z = true := by
  rw [kLtB_iff] at *
  omega
theorem kLtB_irr (x : Ev) : kLtB x x = false := by
  cases h : kLtB x x with
  | false => rfl
  | true => rw [kLtB_iff] at h; omega
theorem x5_isAhead {M : Mem} {i j : Nat} (hi : i < 1044) (hj : j < 1044) {x y : Ev} (a1 : rd M 158 (i + 1) = x.1) (a2 : rd M 158 (i + 2) = x.2.1) (a4 : rd M 158 (i + 4) = x.2.2.1) (b1 : rd M 158 (j + 1) = y.1) (b2 : rd M 158 (j + 2) = y.2.1) (b4 : rd M 158 (j + 4) = y.2.2.1) : f_X5_isAhead M 157 (nI i) (nI j) = some (bI (kLtB x y)) := by
  unfold f_X5_isAhead kLtB
  simp (disch := omega) only [lit_nI, nI_add, ck_nI, cl_nI, a1, a2, a4, b1, b2, b4]
  by_cases h1 : x.1 = y.1
  · rw [if_pos h1, if_pos h1]
    by_cases h2 : x.2.1 = y.2.1
    · rw [if_pos h2, if_pos h2]
      by_cases h3 : y.2.2.1 ≤ x.2.2.1
      · rw [if_pos h3, decide_eq_false (fun h => h h3)]; rfl
      · rw [if_neg h3, decide_eq_true h3]; rfl
    · rw [if_neg h2, if_neg h2]
      by_cases h3 : y.2.1 ≤ x.2.1
      · rw [if_pos h3, decide_eq_false (fun h => h h3)]; rfl
      · rw [if_neg h3, decide_eq_true h3]; rfl
  · rw [if_neg h1, if_neg h1]
    by_cases h3 : y.1 ≤ x.1
    · rw [if_pos h3, decide_eq_false (fun h => h h3)]; rfl
    · rw [if_neg h3, decide_eq_true h3]; rfl
def pF (B : Bg) (p : Nat) : Nat → Option Nat
  | 0 => none
  | k + 1 => if (Bt B k).1 = p then (match pF B p k with
    | none => some k
    | some b => if kLtB (Bt B k).2 (Bt B b).2 = true then some k else some b) else pF B p k
theorem pF_none {B : Bg} {p : Nat} : ∀ {k : Nat}, pF B p k = none → ∀ e, e < k → (Bt B e).1 ≠ p
  | 0, _, e, he => absurd he (by omega)
  | k + 1, h, e, he => by
    unfold pF at h
    by_cases hq : (Bt B k).1 = p
    · rw [if_pos hq] at h
      cases hb : pF B p k with
      | none => rw [hb] at h; cases h
      | some b =>
        rw [hb] at h
        simp only at h
        split at h <;> cases h
    · rw [if_neg hq] at h
      by_cases hk : e = k
      · rw [hk]; exact hq
      · exact pF_none h e (by omega)
theorem pF_some {B : Bg} {p : Nat} : ∀ {k b : Nat}, pF B p k = some b → b < k ∧ (Bt B b).1 = p ∧ ∀ e, e < k → (Bt B e).1 = p → kLtB (Bt B e).2 (Bt B b).2 = false
  | 0, b, h => by cases h
  | k + 1, b, h => by
    unfold pF at h
    by_cases hq : (Bt B k).1 = p
    · rw [if_pos hq] at h
      cases hb : pF B p k with
      | none =>
        rw [hb] at h
        cases h
        refine ⟨by omega, hq, fun e he hp => ?_⟩
        by_cases hk : e = k
        · rw [hk]; exact kLtB_irr _
        · exact absurd hp (pF_none hb e (by omega))
      | some b2 =>
        rw [hb] at h
        obtain ⟨i1, i2, i3⟩ := pF_some hb
        by_cases hc : kLtB (Bt B k).2 (Bt B b2).2 = true
        · simp only [hc, if_true] at h
          cases h
          refine ⟨by omega, hq, fun e he hp => ?_⟩
          by_cases hk : e = k
          · rw [hk]; exact kLtB_irr _
          · cases hx : kLtB (Bt B e).2 (Bt B k).2 with
            | false => rfl
            | true =>
              have h3 := i3 e (by omega) hp
              rw [kLtB_trans hx hc] at h3
              exact h3
        · simp only [hc] at h
          cases h
          refine ⟨by omega, i2, fun e he hp => ?_⟩
          by_cases hk : e = k
          · rw [hk]
            cases hx : kLtB (Bt B k).2 (Bt B b).2 with
            | false => rfl
            | true => exact absurd hx hc
          · exact i3 e (by omega) hp
    · rw [if_neg hq] at h
      obtain ⟨i1, i2, i3⟩ := pF_some h
      refine ⟨by omega, i2, fun e he hp => ?_⟩
      by_cases hk : e = k
      · rw [hk] at hp; exact absurd hp hq
      · exact i3 e (by omega) hp
def oE (r : Nat) (x : Option Nat) : Int32 := match x with
  | none => -1
  | some e => nI (r + 112 + 5 * e)
theorem oE_none {r : Nat} : oE r none = -1 := rfl
theorem oE_some {r e : Nat} : oE r (some e) = nI (r + 112 + 5 * e) := rfl
theorem x5_firstOf {M : Mem} {r : Nat} {B : Bg} (h : RMb M r B) (hl : B.length ≤ 30) (hr : r ≤ 786) (hpt : ∀ e, e < B.length → (Bt B e).1 < 6) {p : Nat} (hp : p < 2147483648) : f_X5_firstOf M 157 (nI r) (nI p) = some (oE r (pF B p B.length)) := by
  unfold f_X5_firstOf
  refine loop_up (f_X5_firstOf_L5 M 157 (nI r) (nI p)) B.length (fun k => oE r (pF B p k)) _ (fun n => ?_) (fun n k hk => ?_) 1000 (by omega)
  · simp (disch := omega) only [f_X5_firstOf_L5, lit_nI, nI_add, ck_nI, cl_nI, h.1, le_nI, Nat.le_refl, if_true]
  · obtain ⟨e0, e1, e2, e3, e4⟩ := h.2 k hk
    have hkn : ¬ B.length ≤ k := by omega
    have h6 := hpt k hk
    rw [f_X5_firstOf_L5]
    by_cases hq : (Bt B k).1 = p
    · cases hb : pF B p k with
      | none =>
        rw [oE_none]
        simp (disch := omega) only [lit_nI, nI_add, pk_mul, ck_nI, cl_nI, h.1, le_nI, hkn, if_false, nm, e0, eq_nI, hq, if_true, f_X5_firstOf_L58, f_X5_firstOf_L64, pF, hb, oE_some]
      | some b =>
        obtain ⟨i1, i2, i3⟩ := pF_some hb
        obtain ⟨g0, g1, g2, g3, g4⟩ := h.2 b (by omega)
        have hne : ¬ nI (r + 112 + 5 * b) = -1 := nI_m1 (by omega)
        have ha := x5_isAhead (M := M) (i := r + 112 + 5 * k) (j := r + 112 + 5 * b) (by omega) (by omega) e1 e2 e4 g1 g2 g4
        rw [oE_some]
        simp (disch := omega) only [hne, if_false]
        cases hc : kLtB (Bt B k).2 (Bt B b).2 with
        | true =>
          rw [hc] at ha
          have h10 : ¬ nI 1 = nI 0 := by decide
          have hb1 : bI true = nI 1 := rfl
          simp (disch := omega) only [lit_nI, nI_add, pk_mul, ck_nI, cl_nI, h.1, le_nI, hkn, if_false, nm, e0, eq_nI, hq, if_true, ha, bd, hb1, h10, f_X5_firstOf_L58, f_X5_firstOf_L63, f_X5_firstOf_L64, pF, hb, hc, oE_some, Nat.one_ne_zero]
        | false =>
          rw [hc] at ha
          have hb1 : bI false = nI 0 := rfl
          simp (disch := omega) only [lit_nI, nI_add, pk_mul, ck_nI, cl_nI, h.1, le_nI, hkn, if_false, nm, e0, eq_nI, hq, if_true, ha, bd, hb1, f_X5_firstOf_L58, f_X5_firstOf_L63, f_X5_firstOf_L64, pF, hb, hc, oE_some, Bool.false_eq_true]
    · simp (disch := omega) only [lit_nI, nI_add, pk_mul, ck_nI, cl_nI, h.1, le_nI, hkn, if_false, nm, e0, eq_nI, hq, f_X5_firstOf_L63, f_X5_firstOf_L64, pF]
theorem Bt_mem {B : Bg} {e : Nat} (h : e < B.length) : Bt B e ∈ B := by
  unfold Bt
  rw [List.getD_eq_getElem?_getD, List.getElem?_eq_getElem h]
  exact List.getElem_mem h
theorem Bt_of_mem {B : Bg} {x : Nat × Ev} (h : x ∈ B) : ∃ e, e < B.length ∧ Bt B e = x := by
  obtain ⟨e, he, hx⟩ := List.getElem_of_mem h
  refine ⟨e, he, ?_⟩
  unfold Bt
  rw [List.getD_eq_getElem?_getD, List.getElem?_eq_getElem he]
  exact hx
def ofP (B : Bg) (p : Nat) : List Ev := (B.filter (fun x => x.1 == p)).map (fun x => x.2)
theorem ofP_mem {B : Bg} {p : Nat} {x : Ev} : x ∈ ofP B p ↔ (p, x) ∈ B := by
  unfold ofP
  rw [List.mem_map]
  constructor
  · rintro ⟨⟨q, y⟩, h1, rfl⟩
    rw [List.mem_filter] at h1
    have h2 : q = p := by simpa using h1.2
    rw [← h2]; exact h1.1
  · intro h
    exact ⟨(p, x), List.mem_filter.mpr ⟨h, by simp⟩, rfl⟩
/-- the bag holds the events of A -/
def BgOK (B : Bg) (A : Ab) : Prop := ∀ p, List.Perm (ofP B p) (ev A p)
def srt (L : List Ev) : Prop := L.Pairwise (fun x y => kLtB x y = true)
/-- the place of a part's first event -/
theorem pF_head {B : Bg} {A : Ab} (h : BgOK B A) {p : Nat} (hs : srt (ev A p)) : (ev A p = [] ∧ pF B p B.length = none) ∨ ∃ x L e, ev A p = x :: L ∧ pF B p B.length = some e ∧ e < B.length ∧ Bt B e = (p, x) := by
  have hm : ∀ x, x ∈ ev A p ↔ (p, x) ∈ B := fun x => by rw [← (h p).mem_iff, ofP_mem]
  cases hf : pF B p B.length with
  | none =>
    left
    refine ⟨?_, rfl⟩
    cases hv : ev A p with
    | nil => rfl
    | cons x L =>
      have h1 : (p, x) ∈ B := (hm x).mp (by rw [hv]; exact List.mem_cons_self)
      obtain ⟨e, he, hx⟩ := Bt_of_mem h1
      exact absurd (by rw [hx]) (pF_none hf e he)
  | some e =>
    right
    obtain ⟨i1, i2, i3⟩ := pF_some hf
    have h1 : Bt B e ∈ B := Bt_mem i1
    have h2 : (Bt B e).2 ∈ ev A p := (hm _).mpr (by rw [← i2]; exact h1)
    cases hv : ev A p with
    | nil => rw [hv] at h2; cases h2
    | cons x L =>
      refine ⟨x, L, e, rfl, rfl, i1, ?_⟩
      rw [hv] at h2 hs
      have h3 : (Bt B e).2 = x := by
        rcases List.mem_cons.mp h2 with q | q
        · exact q
        · have h4 := (List.pairwise_cons.mp hs).1 _ q
          have h5 : (p, x) ∈ B := (hm x).mp (by rw [hv]; exact List.mem_cons_self)
          obtain ⟨e2, he2, hx2⟩ := Bt_of_mem h5
          have h6 := i3 e2 he2 (by rw [hx2])
          rw [hx2] at h6
          rw [h4] at h6
          cases h6
      rw [← h3, ← i2]
