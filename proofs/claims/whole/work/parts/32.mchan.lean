/-! the model's readers of channels -/
def RMc (M : Mem) (r : Nat) (A : Ab) : Prop := rd M 158 (r + 1) = nI (nC A) ∧ ∀ c k, c < nC A → k < 7 → rd M 158 (r + 28 + 7 * c + k) = ch A c k
theorem RMc.z {M : Mem} {A : Ab} (h : RMc M 0 A) : rd M 158 1 = nI (nC A) ∧ ∀ c k, c < nC A → k < 7 → rd M 158 (28 + 7 * c + k) = ch A c k :=
  ⟨h.1, fun c k hc hk => by have := h.2 c k hc hk; rwa [Nat.zero_add] at this⟩
theorem zk_bI {α : Type} {b : Bool} {X : Option α} : zk (bI b) X = X := by
  cases b <;> simp [zk, bI]
theorem bI_0 {b : Bool} : (bI b = nI 0) = (b = false) := by
  cases b <;> simp [bI, nI]
theorem x5_outOf {M : Mem} {r : Nat} {A : Ab} (h : RMc M r A) (hm : nC A ≤ 12) (hr : r ≤ 786) (p : Int32) : f_X5_outOf M 157 (nI r) p = some (nI (pCnt (fun c => decide (ch A c 0 = p)) (nC A))) := by
  unfold f_X5_outOf
  refine loop_up (f_X5_outOf_L5 M 157 (nI r) p) (nC A) (fun k => nI (pCnt (fun c => decide (ch A c 0 = p)) k)) _ (fun n => ?_) (fun n k hk => ?_) 1000 (by omega)
  · simp (disch := omega) only [f_X5_outOf_L5, lit_nI, nI_add, ck_nI, cl_nI, h.1, le_nI, Nat.le_refl, if_true]
  · have e0 := h.2 k 0 hk (by omega)
    have hkn : ¬ nC A ≤ k := by omega
    simp (disch := omega) only [f_X5_outOf_L5, lit_nI, nI_add, pk_mul, ck_nI, cl_nI, h.1, le_nI, hkn, if_false, bd, f_X5_at, e0, f_X5_outOf_L41, nm]
    by_cases hq : ch A k 0 = p
    · simp only [hq, if_true, pCnt, decide_true]
    · simp only [hq, if_false, pCnt, decide_false, Bool.false_eq_true]
theorem x5_waysTo {M : Mem} {A : Ab} (h : RMc M 0 A) (hm : nC A ≤ 12) (p : Int32) : f_X5_waysTo M 157 p = some (nI (pCnt (fun c => decide (ch A c 1 = p)) (nC A))) := by
  unfold f_X5_waysTo
  refine loop_up (f_X5_waysTo_L4 M 157 p) (nC A) (fun k => nI (pCnt (fun c => decide (ch A c 1 = p)) k)) _ (fun n => ?_) (fun n k hk => ?_) 1000 (by omega)
  · simp (disch := omega) only [f_X5_waysTo_L4, lit_nI, nI_add, ck_nI, cl_nI, h.z.1, le_nI, Nat.le_refl, if_true]
  · have e0 := h.z.2 k 1 hk (by omega)
    have hkn : ¬ nC A ≤ k := by omega
    simp (disch := omega) only [f_X5_waysTo_L4, lit_nI, nI_add, pk_mul, ck_nI, cl_nI, h.z.1, le_nI, hkn, if_false, bd, f_X5_at, e0, f_X5_waysTo_L36, nm]
    by_cases hq : ch A k 1 = p
    · simp only [hq, if_true, pCnt, decide_true]
    · simp only [hq, if_false, pCnt, decide_false, Bool.false_eq_true]
theorem x5_leastTo {M : Mem} {A : Ab} (h : RMc M 0 A) (hm : nC A ≤ 12) (p : Int32) : f_X5_leastTo M 157 p = some (oI (pBest A p (nC A))) := by
  unfold f_X5_leastTo
  refine loop_up (f_X5_leastTo_L4 M 157 p) (nC A) (fun k => oI (pBest A p k)) _ (fun n => ?_) (fun n k hk => ?_) 1000 (by omega)
  · simp (disch := omega) only [f_X5_leastTo_L4, lit_nI, nI_add, ck_nI, cl_nI, h.z.1, le_nI, Nat.le_refl, if_true]
  · have e1 := h.z.2 k 1 hk (by omega)
    have e4 := h.z.2 k 4 hk (by omega)
    have hkn : ¬ nC A ≤ k := by omega
    rw [f_X5_leastTo_L4]
    by_cases hq : ch A k 1 = p
    · cases hb : pBest A p k with
      | none =>
        rw [oI_none]
        simp (disch := omega) only [lit_nI, nI_add, pk_mul, ck_nI, cl_nI, h.z.1, le_nI, hkn, if_false, bd, f_X5_at, e1, hq, if_true, f_X5_leastTo_L62, f_X5_leastTo_L67, nm, pBest, hb, oI_some]
      | some b =>
        have hl := (pBest_lt hb).1
        have eb := h.z.2 b 4 (by omega) (by omega)
        have hne : ¬ nI b = -1 := nI_m1 (by omega)
        rw [oI_some]
        simp (disch := omega) only [hne, if_false]
        by_cases hc : ch A b 4 ≤ ch A k 4
        · simp (disch := omega) only [lit_nI, nI_add, pk_mul, ck_nI, cl_nI, h.z.1, le_nI, hkn, if_false, bd, f_X5_at, e1, e4, eb, hq, if_true, hc, f_X5_leastTo_L66, f_X5_leastTo_L62, f_X5_leastTo_L67, nm, pBest, hb, oI_some]
        · simp (disch := omega) only [lit_nI, nI_add, pk_mul, ck_nI, cl_nI, h.z.1, le_nI, hkn, if_false, bd, f_X5_at, e1, e4, eb, hq, if_true, hc, f_X5_leastTo_L66, f_X5_leastTo_L62, f_X5_leastTo_L67, nm, pBest, hb, oI_some]
    · simp (disch := omega) only [lit_nI, nI_add, pk_mul, ck_nI, cl_nI, h.z.1, le_nI, hkn, if_false, bd, f_X5_at, e1, hq, f_X5_leastTo_L66, f_X5_leastTo_L67, nm, pBest]
theorem x5_wayOf {M : Mem} {A : Ab} (h : RMc M 0 A) (hm : nC A ≤ 12) (p q : Int32) : f_X5_wayOf M 157 p q = some (oI (fstIx (isWay A p q) (nC A))) := by
  unfold f_X5_wayOf
  refine loop_fst (fun n (_ : Unit) k => f_X5_wayOf_L2 M 157 p q n k) (nC A) (fun _ => ()) (isWay A p q) (fun x => some (oI x)) (fun n _ => ?_) (fun n k hk _ hf => ?_) (fun n k hk _ hf => ?_) 1000 (by omega)
  · show f_X5_wayOf_L2 M 157 p q (n + 1) (nI (nC A)) = _
    simp (disch := omega) only [f_X5_wayOf_L2, lit_nI, nI_add, ck_nI, cl_nI, h.z.1, le_nI, Nat.le_refl, if_true]
    rfl
  · show f_X5_wayOf_L2 M 157 p q (n + 1) (nI k) = _
    have hw := of_decide_eq_true hf
    have e0 := h.z.2 k 0 hk (by omega)
    have e1 := h.z.2 k 1 hk (by omega)
    have hkn : ¬ nC A ≤ k := by omega
    simp (disch := omega) only [f_X5_wayOf_L2, lit_nI, nI_add, pk_mul, ck_nI, cl_nI, h.z.1, le_nI, hkn, if_false, bd, f_X5_at, e0, e1, hw.1, hw.2, if_true]
    rfl
  · show f_X5_wayOf_L2 M 157 p q (n + 1) (nI k) = f_X5_wayOf_L2 M 157 p q n (nI (k + 1))
    have hw := of_decide_eq_false hf
    have e0 := h.z.2 k 0 hk (by omega)
    have e1 := h.z.2 k 1 hk (by omega)
    have hkn : ¬ nC A ≤ k := by omega
    rw [f_X5_wayOf_L2]
    by_cases h1 : ch A k 0 = p
    · have h2 : ¬ ch A k 1 = q := fun h2 => hw ⟨h1, h2⟩
      simp (disch := omega) only [lit_nI, nI_add, pk_mul, ck_nI, cl_nI, h.z.1, le_nI, hkn, if_false, bd, f_X5_at, e0, e1, h1, h2, if_true, f_X5_wayOf_L46, nm]
    · simp (disch := omega) only [lit_nI, nI_add, pk_mul, ck_nI, cl_nI, h.z.1, le_nI, hkn, if_false, bd, f_X5_at, e0, e1, h1, f_X5_wayOf_L46, nm]
theorem pAny_isSome (f : Nat → Bool) : ∀ k, (fstIx f k).isSome = pAny f k
  | 0 => rfl
  | k + 1 => by
    have ih := pAny_isSome f k
    show (match fstIx f k with
      | some i => some i
      | none => if f k = true then some k else none).isSome = (pAny f k || f k)
    cases h : fstIx f k with
    | some i =>
      rw [h] at ih
      rw [← ih]
      rfl
    | none =>
      rw [h] at ih
      rw [← ih]
      cases hf : f k <;> rfl
theorem x5_isPromised {M : Mem} {A : Ab} (h : RMc M 0 A) (hm : nC A ≤ 12) (p t : Int32) : f_X5_isPromised M 157 p t = some (bI (pAny (isProm A p t) (nC A))) := by
  unfold f_X5_isPromised
  refine loop_up (f_X5_isPromised_L5 M 157 p t) (nC A) (fun k => bI (pAny (isProm A p t) k)) _ (fun n => ?_) (fun n k hk => ?_) 1000 (by omega)
  · simp (disch := omega) only [f_X5_isPromised_L5, lit_nI, nI_add, ck_nI, cl_nI, h.z.1, le_nI, Nat.le_refl, if_true, zk_bI]
  · have e0 := h.z.2 k 0 hk (by omega)
    have e2 := h.z.2 k 2 hk (by omega)
    have e4 := h.z.2 k 4 hk (by omega)
    have hkn : ¬ nC A ≤ k := by omega
    rw [f_X5_isPromised_L5]
    cases hb : pAny (isProm A p t) k with
    | true =>
      simp (disch := omega) only [lit_nI, nI_add, ck_nI, cl_nI, h.z.1, le_nI, hkn, if_false, bI_0, Bool.true_eq_false, f_X5_isPromised_L68, f_X5_isPromised_L73, nm, pAny, hb, Bool.true_or]
      rfl
    | false =>
      by_cases h1 : ch A k 0 = p
      · by_cases h2 : ch A k 4 ≤ t + ch A k 2
        · have hi : isProm A p t k = false := by simp [isProm, h1, h2]
          simp (disch := omega) only [lit_nI, nI_add, pk_mul, ck_nI, cl_nI, h.z.1, le_nI, hkn, if_false, bI_0, if_true, bd, f_X5_at, e0, e2, e4, h1, h2, f_X5_isPromised_L72, f_X5_isPromised_L73, nm, pAny, hb, hi, Bool.or_false]
          rfl
        · have hi : isProm A p t k = true := by simp [isProm, h1, h2]
          simp (disch := omega) only [lit_nI, nI_add, pk_mul, ck_nI, cl_nI, h.z.1, le_nI, hkn, if_false, bI_0, if_true, bd, f_X5_at, e0, e2, e4, h1, h2, f_X5_isPromised_L68, f_X5_isPromised_L73, nm, pAny, hb, hi, Bool.or_true]
          rfl
      · have hi : isProm A p t k = false := by simp [isProm, h1]
        simp (disch := omega) only [lit_nI, nI_add, pk_mul, ck_nI, cl_nI, h.z.1, le_nI, hkn, if_false, bI_0, if_true, bd, f_X5_at, e0, h1, f_X5_isPromised_L72, f_X5_isPromised_L73, nm, pAny, hb, hi, Bool.or_false]
        rfl
theorem pCnt_lt_of {f : Nat → Bool} {i : Nat} (hf : f i = true) : ∀ {k : Nat}, i < k → pCnt f i < pCnt f k
  | 0, h => absurd h (by omega)
  | k + 1, h => by
    show pCnt f i < pCnt f k + (if f k = true then 1 else 0)
    by_cases hk : i = k
    · subst hk
      rw [if_pos hf]
      omega
    · have := pCnt_lt_of hf (k := k) (by omega)
      omega
theorem place_none {A : Ab} {p : Int32} {pl k : Nat} (h : isPlace A p pl k = true) : fstIx (isPlace A p pl) k = none := by
  cases hq : fstIx (isPlace A p pl) k with
  | none => rfl
  | some i =>
    obtain ⟨h1, h2⟩ := fstIx_lt hq
    have ha := of_decide_eq_true h
    have hb := of_decide_eq_true h2
    have := pCnt_lt_of (f := fun c => decide (ch A c 0 = p)) (i := i) (by simpa using hb.1) h1
    omega
theorem fstIx_step {f : Nat → Bool} {k : Nat} : fstIx f (k + 1) = match fstIx f k with
    | some i => some i
    | none => if f k = true then some k else none := rfl
theorem x5_outAt {M : Mem} {r : Nat} {A : Ab} (h : RMc M r A) (hm : nC A ≤ 12) (hr : r ≤ 786) (p : Int32) {pl : Nat} (hpl : pl < 2147483648) : f_X5_outAt M 157 (nI r) p (nI pl) = some (oI (fstIx (isPlace A p pl) (nC A))) := by
  unfold f_X5_outAt
  refine loop_up (fun n (s : Int32 × Int32) k => f_X5_outAt_L9 M 157 (nI r) p (nI pl) n s.1 s.2 k) (nC A) (fun k => (oI (fstIx (isPlace A p pl) k), nI (pCnt (fun c => decide (ch A c 0 = p)) k))) _ (fun n => ?_) (fun n k hk => ?_) 1000 (by omega)
  · show f_X5_outAt_L9 M 157 (nI r) p (nI pl) (n + 1) (oI (fstIx (isPlace A p pl) (nC A))) (nI (pCnt (fun c => decide (ch A c 0 = p)) (nC A))) (nI (nC A)) = _
    simp (disch := omega) only [f_X5_outAt_L9, lit_nI, nI_add, ck_nI, cl_nI, h.1, le_nI, Nat.le_refl, if_true]
  · show f_X5_outAt_L9 M 157 (nI r) p (nI pl) (n + 1) (oI (fstIx (isPlace A p pl) k)) (nI (pCnt (fun c => decide (ch A c 0 = p)) k)) (nI k) = f_X5_outAt_L9 M 157 (nI r) p (nI pl) n (oI (fstIx (isPlace A p pl) (k + 1))) (nI (pCnt (fun c => decide (ch A c 0 = p)) (k + 1))) (nI (k + 1))
    have e0 := h.2 k 0 hk (by omega)
    have hkn : ¬ nC A ≤ k := by omega
    have hle := pCnt_le (fun c => decide (ch A c 0 = p)) k
    rw [f_X5_outAt_L9]
    by_cases h1 : ch A k 0 = p
    · have hc : pCnt (fun c => decide (ch A c 0 = p)) (k + 1) = pCnt (fun c => decide (ch A c 0 = p)) k + 1 := by simp [pCnt, h1]
      by_cases h2 : pCnt (fun c => decide (ch A c 0 = p)) k = pl
      · have hi : isPlace A p pl k = true := by simp [isPlace, h1, h2]
        have hn := place_none hi
        have hs : fstIx (isPlace A p pl) (k + 1) = some k := by rw [fstIx_step, hn]; simp [hi]
        rw [hc, hs, hn, oI_some]
        simp (disch := omega) only [lit_nI, nI_add, pk_mul, ck_nI, cl_nI, h.1, le_nI, hkn, if_false, bd, f_X5_at, e0, h1, if_true, eq_nI, h2, f_X5_outAt_L52, f_X5_outAt_L57, nm]
      · have hi : isPlace A p pl k = false := by simp [isPlace, h2]
        have hs : fstIx (isPlace A p pl) (k + 1) = fstIx (isPlace A p pl) k := by
          rw [fstIx_step]
          cases fstIx (isPlace A p pl) k <;> simp [hi]
        rw [hc, hs]
        simp (disch := omega) only [lit_nI, nI_add, pk_mul, ck_nI, cl_nI, h.1, le_nI, hkn, if_false, bd, f_X5_at, e0, h1, if_true, eq_nI, h2, f_X5_outAt_L52, f_X5_outAt_L57, nm]
    · have hc : pCnt (fun c => decide (ch A c 0 = p)) (k + 1) = pCnt (fun c => decide (ch A c 0 = p)) k := by simp [pCnt, h1]
      have hi : isPlace A p pl k = false := by simp [isPlace, h1]
      have hs : fstIx (isPlace A p pl) (k + 1) = fstIx (isPlace A p pl) k := by
        rw [fstIx_step]
        cases fstIx (isPlace A p pl) k <;> simp [hi]
      rw [hc, hs]
      simp (disch := omega) only [lit_nI, nI_add, pk_mul, ck_nI, cl_nI, h.1, le_nI, hkn, if_false, bd, f_X5_at, e0, h1, f_X5_outAt_L57, nm]
theorem jrem_nI {a d : Nat} (ha : a < 2147483648) (h0 : 0 < d) (hd : d < 2147483648) : jrem (nI a) (nI d) = nI (a % d) := pk_rem ha h0 hd
/-- SAFE of a part, as both read it -/
def safeA (A : Ab) (p : Int32) : Int32 := match pBest A p (nC A) with
  | none => 99999999
  | some c => ch A c 4
theorem x5_safe {M : Mem} {A : Ab} (h : RMc M 0 A) (hm : nC A ≤ 12) (p : Int32) : f_X5_safe M 157 p = some (safeA A p) := by
  unfold f_X5_safe
  rw [x5_leastTo h hm]
  unfold safeA
  cases hb : pBest A p (nC A) with
  | none => simp only [bd, oI_none, if_true, f_X5_safe_L28]
  | some c =>
    have hl := (pBest_lt hb).1
    have e4 := h.z.2 c 4 hl (by omega)
    have hne : ¬ nI c = -1 := nI_m1 (by omega)
    simp only [bd, oI_some, hne, if_false]
    simp (disch := omega) only [f_X5_at, lit_nI, nI_add, pk_mul, ck_nI, cl_nI, e4, f_X5_safe_L28]
theorem x5_in (a b c : Int64) : f_X5_in a b c = some (bI (decide (b ≤ a ∧ a ≤ c))) := by
  unfold f_X5_in f_X5_in_L17 f_X5_in_L18 lg_cmp
  have hb : b ≤ a ↔ ¬ a < b := by rw [Int64.le_iff_toInt_le, Int64.lt_iff_toInt_lt]; omega
  have hc : a ≤ c ↔ ¬ c < a := by rw [Int64.le_iff_toInt_le, Int64.lt_iff_toInt_lt]; omega
  by_cases h1 : a < b
  · have h2 : ¬ a > b := by show ¬ b < a; rw [Int64.lt_iff_toInt_lt] at *; omega
    have h3 : ¬ a = b := fun e => by rw [e, Int64.lt_iff_toInt_lt] at h1; omega
    simp [h2, h3, hb, h1, zk, bI]
  · have h4 : ¬ (if a > b then (1 : Int32) else if a = b then 0 else -1) < 0 := by
      by_cases h5 : a > b
      · simp [h5]
      · have h6 : a = b := Int64.toInt_inj.mp (by
          have h5 : ¬ b < a := h5
          rw [Int64.lt_iff_toInt_lt] at h1 h5; omega)
        simp [h6]
    rw [if_neg h4]
    by_cases h7 : c < a
    · have h8 : a > c := h7
      have h9 : ¬ (b ≤ a ∧ a ≤ c) := fun q => (hc.mp q.2) h7
      rw [if_pos (show (0 : Int32) < (if a > c then (1 : Int32) else if a = c then 0 else -1) by rw [if_pos h8]; decide), decide_eq_false h9]
      rfl
    · have h8 : ¬ a > c := h7
      have h9 : ¬ (0 : Int32) < (if a > c then (1 : Int32) else if a = c then 0 else -1) := by
        rw [if_neg h8]
        split <;> decide
      rw [if_neg h9]
      simp [hb, hc, h1, h7, zk, bI]
