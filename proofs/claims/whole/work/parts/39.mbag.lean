/-! the model's row: changes; an event taken out of the bag -/
theorem RM_congr {M M1 : Mem} {r : Nat} {A : Ab} {B : Bg} (h : RM M r A B) (hC : nC A ≤ 12) (hl : B.length ≤ 30) (hf : ∀ j, r ≤ j → j < r + 262 → rd M1 158 j = rd M 158 j) : RM M1 r A B := by
  obtain ⟨⟨a1, a2⟩, a3, a4, a5, a6, a7, a8, a9⟩ := h
  refine ⟨⟨by rw [hf _ (by omega) (by omega)]; exact a1, fun c k h1 h2 => by rw [hf _ (by omega) (by omega)]; exact a2 c k h1 h2⟩, by rw [hf _ (by omega) (by omega)]; exact a3, fun k h1 h2 => by rw [hf _ (by omega) (by omega)]; exact a4 k h1 h2, by rw [hf _ (by omega) (by omega)]; exact a5, by rw [hf _ (by omega) (by omega)]; exact a6, fun p hp => ?_, by rw [hf _ (by omega) (by omega)]; exact a8, fun e he => ?_⟩
  · rw [hf _ (by omega) (by omega), hf _ (by omega) (by omega), hf _ (by omega) (by omega)]
    exact a7 p hp
  · rw [hf _ (by omega) (by omega), hf _ (by omega) (by omega), hf _ (by omega) (by omega), hf _ (by omega) (by omega), hf _ (by omega) (by omega)]
    exact a9 e he
theorem RM_S {M : Mem} {r k : Nat} {A : Ab} {B : Bg} {v : Int32} (h : RM M r A B) (hC : nC A ≤ 12) (h1 : 2 ≤ k) (h2 : k < 7) : RM (wr M 158 (r + k) v) r (stS A k v) B := by
  obtain ⟨⟨a1, a2⟩, a3, a4, a5, a6, a7, a8, a9⟩ := h
  refine ⟨⟨by rw [rd_wr, if_neg (by omega)]; exact a1, fun c k' q1 q2 => by rw [rd_wr, if_neg (by omega)]; exact a2 c k' q1 q2⟩, by rw [rd_wr, if_neg (by omega)]; exact a3, fun k' q1 q2 => ?_, by rw [rd_wr, if_neg (by omega)]; exact a5, by rw [rd_wr, if_neg (by omega)]; exact a6, fun p hp => ?_, by rw [rd_wr, if_neg (by omega)]; exact a8, fun e he => ?_⟩
  · rw [rd_wr, sc_stS]
    by_cases q : k' = k
    · rw [if_pos ⟨rfl, by omega⟩, if_pos q]
    · rw [if_neg (by omega), if_neg q]; exact a4 k' q1 q2
  · rw [rd_wr, if_neg (by omega), rd_wr, if_neg (by omega), rd_wr, if_neg (by omega)]
    exact a7 p hp
  · rw [rd_wr, if_neg (by omega), rd_wr, if_neg (by omega), rd_wr, if_neg (by omega), rd_wr, if_neg (by omega), rd_wr, if_neg (by omega)]
    exact a9 e he
theorem RM_P {M : Mem} {r k p j : Nat} {A : Ab} {B : Bg} {v : Int32} (h : RM M r A B) (hC : nC A ≤ 12) (h1 : k < 3) (h2 : p < 6) (hj : j = r + 10 + 6 * k + p) : RM (wr M 158 j v) r (stP A k p v) B := by
  obtain ⟨⟨a1, a2⟩, a3, a4, a5, a6, a7, a8, a9⟩ := h
  refine ⟨⟨by rw [rd_wr, if_neg (by omega)]; exact a1, fun c k' q1 q2 => by rw [rd_wr, if_neg (by omega)]; exact a2 c k' q1 q2⟩, by rw [rd_wr, if_neg (by omega)]; exact a3, fun k' q1 q2 => by rw [rd_wr, if_neg (by omega)]; exact a4 k' q1 q2, by rw [rd_wr, if_neg (by omega)]; exact a5, by rw [rd_wr, if_neg (by omega)]; exact a6, fun p' hp => ?_, by rw [rd_wr, if_neg (by omega)]; exact a8, fun e he => ?_⟩
  · obtain ⟨b0, b1, b2⟩ := a7 p' hp
    rw [rd_wr, rd_wr, rd_wr]
    exact ⟨ite_and_rd (c := 0) (c' := k) (k := p') (k' := p) b0 (by omega), ite_and_rd (c := 1) (c' := k) (k := p') (k' := p) b1 (by omega), ite_and_rd (c := 2) (c' := k) (k := p') (k' := p) b2 (by omega)⟩
  · rw [rd_wr, if_neg (by omega), rd_wr, if_neg (by omega), rd_wr, if_neg (by omega), rd_wr, if_neg (by omega), rd_wr, if_neg (by omega)]
    exact a9 e he
theorem RM_C {M : Mem} {r c k j : Nat} {A : Ab} {B : Bg} {v : Int32} (h : RM M r A B) (hC : nC A ≤ 12) (h1 : c < 12) (h2 : k < 7) (hj : j = r + 28 + 7 * c + k) : RM (wr M 158 j v) r (stC A c k v) B := by
  obtain ⟨⟨a1, a2⟩, a3, a4, a5, a6, a7, a8, a9⟩ := h
  refine ⟨⟨by rw [rd_wr, if_neg (by omega)]; exact a1, fun c' k' q1 q2 => ?_⟩, by rw [rd_wr, if_neg (by omega)]; exact a3, fun k' q1 q2 => by rw [rd_wr, if_neg (by omega)]; exact a4 k' q1 q2, by rw [rd_wr, if_neg (by omega)]; exact a5, by rw [rd_wr, if_neg (by omega)]; exact a6, fun p' hp => ?_, by rw [rd_wr, if_neg (by omega)]; exact a8, fun e he => ?_⟩
  · rw [rd_wr]
    exact ite_and_rd (c := c') (c' := c) (k := k') (k' := k) (a2 c' k' q1 q2) (by omega)
  · rw [rd_wr, if_neg (by omega), rd_wr, if_neg (by omega), rd_wr, if_neg (by omega)]
    exact a7 p' hp
  · rw [rd_wr, if_neg (by omega), rd_wr, if_neg (by omega), rd_wr, if_neg (by omega), rd_wr, if_neg (by omega), rd_wr, if_neg (by omega)]
    exact a9 e he
theorem RM_A {M : Mem} {r a : Nat} {A : Ab} {B : Bg} (h : RM M r A B) (hC : nC A ≤ 12) : RM (wr M 158 (r + 8) (nI a)) r (stN A (nP A) (nC A) (nH A) a) B := by
  obtain ⟨⟨a1, a2⟩, a3, a4, a5, a6, a7, a8, a9⟩ := h
  refine ⟨⟨by rw [rd_wr, if_neg (by omega)]; exact a1, fun c' k' q1 q2 => by rw [rd_wr, if_neg (by omega)]; exact a2 c' k' q1 q2⟩, by rw [rd_wr, if_neg (by omega)]; exact a3, fun k' q1 q2 => by rw [rd_wr, if_neg (by omega)]; exact a4 k' q1 q2, by rw [rd_wr, if_neg (by omega)]; exact a5, by rw [rd_wr, if_pos ⟨rfl, rfl⟩]; rfl, fun p' hp => ?_, by rw [rd_wr, if_neg (by omega)]; exact a8, fun e he => ?_⟩
  · rw [rd_wr, if_neg (by omega), rd_wr, if_neg (by omega), rd_wr, if_neg (by omega)]
    exact a7 p' hp
  · rw [rd_wr, if_neg (by omega), rd_wr, if_neg (by omega), rd_wr, if_neg (by omega), rd_wr, if_neg (by omega), rd_wr, if_neg (by omega)]
    exact a9 e he
-- the last event comes to the place of the one that goes
def swM (M : Mem) (e0 l0 : Nat) : Nat → Mem
  | 0 => M
  | k + 1 => wr (swM M e0 l0 k) 158 (e0 + k) (rd (swM M e0 l0 k) 158 (l0 + k))
theorem rd_swM {M : Mem} {e0 l0 : Nat} (hd : e0 = l0 ∨ e0 + 5 ≤ l0) : ∀ k, k ≤ 5 → ∀ i j, rd (swM M e0 l0 k) i j = if i = 158 ∧ e0 ≤ j ∧ j < e0 + k then rd M 158 (l0 + (j - e0)) else rd M i j
  | 0, _, i, j => by
    rw [if_neg (by omega)]
    rfl
  | k + 1, hk, i, j => by
    have ih := rd_swM (M := M) hd k (by omega)
    show rd (wr (swM M e0 l0 k) 158 (e0 + k) (rd (swM M e0 l0 k) 158 (l0 + k))) i j = _
    rw [rd_wr]
    by_cases c1 : i = 158 ∧ j = e0 + k
    · rw [if_pos c1, if_pos (by omega), ih, if_neg (by omega)]
      congr 1
      omega
    · rw [if_neg c1, ih]
      by_cases c2 : i = 158 ∧ e0 ≤ j ∧ j < e0 + k
      · rw [if_pos c2, if_pos (by omega)]
      · rw [if_neg c2, if_neg (by omega)]
theorem swM_2 {M : Mem} {e0 l0 : Nat} : ∀ k, (swM M e0 l0 k).2 = M.2
  | 0 => rfl
  | k + 1 => swM_2 k
theorem x5_swap {M : Mem} {e0 l0 : Nat} (h1 : e0 < 1044) (h2 : l0 < 1044) (v1 v3 v4 v5 : Int32) : f_X5_works_L145 157 v1 (nI e0) v3 v4 v5 (nI l0) 1000 M 0 = f_X5_works_L176 (swM M e0 l0 5) 157 v1 v3 v4 v5 := by
  refine loop_up (f_X5_works_L145 157 v1 (nI e0) v3 v4 v5 (nI l0)) 5 (fun k => swM M e0 l0 k) _ (fun n => ?_) (fun n k hk => ?_) 1000 (by omega)
  · rw [f_X5_works_L145, if_pos (show (5 : Int32) ≤ nI 5 from Int32.le_refl _)]
  · have h5 : ¬ (5 : Int32) ≤ nI k := nI_ge (b := 5) hk (by omega)
    rw [f_X5_works_L145, if_neg h5, nI_add, nI_add, ck_nI (by omega) (by omega), ck_nI (by omega) (by omega), cl_nI (by omega), cl_nI (by omega)]
    unfold nm
    rw [nI_1]
    rfl
def rmB (B : Bg) (e : Nat) : Bg := (B.set e (Bt B (B.length - 1))).take (B.length - 1)
theorem rmB_len {B : Bg} {e : Nat} (h : 0 < B.length) : (rmB B e).length = B.length - 1 := by
  unfold rmB
  simp
theorem Bt_rmB {B : Bg} {e j : Nat} (hj : j < B.length - 1) : Bt (rmB B e) j = if j = e then Bt B (B.length - 1) else Bt B j := by
  unfold rmB
  conv => lhs; unfold Bt
  rw [List.getD_eq_getElem?_getD, List.getElem?_take_of_lt hj, List.getElem?_set]
  by_cases c : j = e
  · subst c
    rw [if_pos rfl, if_pos (by omega), if_pos rfl]
    rfl
  · rw [if_neg (fun q => c q.symm), if_neg c]
    unfold Bt
    rw [List.getD_eq_getElem?_getD]
theorem perm_rmB {B : Bg} {e : Nat} (h : e < B.length) : List.Perm B (Bt B e :: rmB B e) := by
  have hx : B = B.take e ++ Bt B e :: B.drop (e + 1) := by
    have h1 : Bt B e = B[e] := by unfold Bt; rw [List.getD_eq_getElem?_getD, List.getElem?_eq_getElem h]; rfl
    rw [h1, ← List.drop_eq_getElem_cons h, List.take_append_drop]
  have hl : (B.take e).length = e := by simp; omega
  generalize B.take e = l1 at hx hl
  generalize Bt B e = x at hx
  generalize B.drop (e + 1) = l2 at hx
  subst hl
  cases hq : l2.reverse with
  | nil =>
    have h2 : l2 = [] := by simpa using hq
    subst h2
    have h3 : rmB B l1.length = l1 := by
      unfold rmB
      rw [hx]
      have : (l1 ++ [x]).length - 1 = l1.length := by simp
      rw [this, List.take_set_of_le (Nat.le_refl _), List.take_left]
    rw [h3, hx]
    exact List.perm_append_singleton x l1
  | cons y l3 =>
    have h2 : l2 = l3.reverse ++ [y] := by
      have := congrArg List.reverse hq
      simpa using this
    subst h2
    have hlen : B.length - 1 = (l1 ++ y :: l3.reverse).length := by rw [hx]; simp
    have hlast : Bt B (B.length - 1) = y := by
      unfold Bt
      rw [hlen, hx, List.getD_eq_getElem?_getD]
      have : l1 ++ x :: (l3.reverse ++ [y]) = (l1 ++ x :: l3.reverse) ++ [y] := by simp
      rw [this, List.getElem?_append_right (by simp)]
      simp
    have h3 : rmB B l1.length = l1 ++ y :: l3.reverse := by
      unfold rmB
      rw [hlast, hlen]
      conv => lhs; rw [hx]
      rw [List.set_append_right _ _ (Nat.le_refl _), Nat.sub_self, List.set_cons_zero]
      have : l1 ++ y :: (l3.reverse ++ [y]) = (l1 ++ y :: l3.reverse) ++ [y] := by simp
      rw [this, List.take_left]
    rw [h3]
    conv => lhs; rw [hx]
    refine List.perm_middle.trans (List.Perm.cons _ ?_)
    have h4 : l1 ++ (l3.reverse ++ [y]) = (l1 ++ l3.reverse) ++ [y] := by simp
    rw [h4]
    exact (List.perm_append_singleton y _).trans List.perm_middle.symm
theorem BgOK_rm {B : Bg} {A : Ab} {e p : Nat} {x : Ev} {L : List Ev} (h : BgOK B A) (he : e < B.length) (hb : Bt B e = (p, x)) (hv : ev A p = x :: L) : BgOK (rmB B e) (work1 A p x L) := by
  intro q
  have h1 := perm_rmB he
  rw [hb] at h1
  have h2 : List.Perm (ofP B q) (ofP ((p, x) :: rmB B e) q) := (h1.filter _).map _
  show List.Perm (ofP (rmB B e) q) (if q = p then L else ev A q)
  by_cases c : q = p
  · subst c
    rw [if_pos rfl]
    have h3 : ofP ((q, x) :: rmB B e) q = x :: ofP (rmB B e) q := by simp [ofP]
    rw [h3] at h2
    have h4 := h2.symm.trans (h q)
    rw [hv] at h4
    exact h4.cons_inv
  · rw [if_neg c]
    have h3 : ofP ((p, x) :: rmB B e) q = ofP (rmB B e) q := by
      have : (p == q) = false := by simpa using fun z => c z.symm
      simp [ofP, this]
    rw [h3] at h2
    exact h2.symm.trans (h q)
theorem RM_rm {M : Mem} {r e : Nat} {A : Ab} {B : Bg} (h : RM M r A B) (hC : nC A ≤ 12) (hl : B.length ≤ 30) (he : e < B.length) : RM (wr (swM M (r + 112 + 5 * e) (r + 112 + 5 * (B.length - 1)) 5) 158 (r + 9) (nI (B.length - 1))) r A (rmB B e) := by
  have hr := rd_swM (M := M) (e0 := r + 112 + 5 * e) (l0 := r + 112 + 5 * (B.length - 1)) (by omega) 5 (Nat.le_refl _)
  have hlow : ∀ j, j < r + 112 → j ≠ r + 9 → rd (wr (swM M (r + 112 + 5 * e) (r + 112 + 5 * (B.length - 1)) 5) 158 (r + 9) (nI (B.length - 1))) 158 j = rd M 158 j := by
    intro j h1 h2
    rw [rd_wr, if_neg (by omega), hr, if_neg (by omega)]
  have hev : ∀ e' i, e' < B.length → i < 5 → rd (wr (swM M (r + 112 + 5 * e) (r + 112 + 5 * (B.length - 1)) 5) 158 (r + 9) (nI (B.length - 1))) 158 (r + 112 + 5 * e' + i) = if e' = e then rd M 158 (r + 112 + 5 * (B.length - 1) + i) else rd M 158 (r + 112 + 5 * e' + i) := by
    intro e' i h1 h2
    rw [rd_wr, if_neg (by omega), hr]
    by_cases c : e' = e
    · rw [if_pos (by omega), if_pos c]
      congr 1
      omega
    · rw [if_neg (by omega), if_neg c]
  obtain ⟨⟨a1, a2⟩, a3, a4, a5, a6, a7, a8, a9⟩ := h
  refine ⟨⟨by rw [hlow _ (by omega) (by omega)]; exact a1, fun c' k' q1 q2 => by rw [hlow _ (by omega) (by omega)]; exact a2 c' k' q1 q2⟩, by rw [hlow _ (by omega) (by omega)]; exact a3, fun k' q1 q2 => by rw [hlow _ (by omega) (by omega)]; exact a4 k' q1 q2, by rw [hlow _ (by omega) (by omega)]; exact a5, by rw [hlow _ (by omega) (by omega)]; exact a6, fun p' hp => ?_, ?_, fun e' he' => ?_⟩
  · rw [hlow _ (by omega) (by omega), hlow _ (by omega) (by omega), hlow _ (by omega) (by omega)]
    exact a7 p' hp
  · rw [rd_wr, if_pos ⟨rfl, rfl⟩, rmB_len (by omega)]
  · rw [rmB_len (by omega)] at he'
    rw [Bt_rmB he', hev e' 0 (by omega) (by omega), hev e' 1 (by omega) (by omega), hev e' 2 (by omega) (by omega), hev e' 3 (by omega) (by omega), hev e' 4 (by omega) (by omega)]
    by_cases c : e' = e
    · rw [if_pos c, if_pos c, if_pos c, if_pos c, if_pos c, if_pos c]
      exact a9 (B.length - 1) (by omega)
    · rw [if_neg c, if_neg c, if_neg c, if_neg c, if_neg c, if_neg c]
      exact a9 e' (by omega)
