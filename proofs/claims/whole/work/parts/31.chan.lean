theorem m1_nI {i : Nat} (h : i < 2147483648) : (nI i = -1) = False := by
  refine eq_false (fun q => ?_)
  have h1 : (nI i).toInt = (-1 : Int32).toInt := by rw [q]
  rw [nI_toInt h] at h1
  have h2 : (-1 : Int32).toInt = -1 := by decide
  omega
theorem nI_m1 {i : Nat} (h : i < 2147483648) : ¬ nI i = -1 := fun q => by rw [m1_nI h] at q; exact q
theorem oI_none : oI none = -1 := rfl
theorem oI_some {i : Nat} : oI (some i) = nI i := rfl
theorem oI_m1 {x : Option Nat} (h : ∀ i, x = some i → i < 2147483648) : (oI x = -1) = (x = none) := by
  cases x with
  | none => simp [oI_none]
  | some i => rw [oI_some, m1_nI (h i rfl)]; simp
def pBest (A : Ab) (p : Int32) : Nat → Option Nat
  | 0 => none
  | k + 1 => if ch A k 1 = p then (match pBest A p k with
    | none => some k
    | some b => if ch A b 4 ≤ ch A k 4 then some b else some k) else pBest A p k
theorem pBest_lt {A : Ab} {p : Int32} : ∀ {k b : Nat}, pBest A p k = some b → b < k ∧ ch A b 1 = p
  | 0, b, h => by cases h
  | k + 1, b, h => by
    unfold pBest at h
    by_cases hq : ch A k 1 = p
    · rw [if_pos hq] at h
      cases hb : pBest A p k with
      | none => rw [hb] at h; cases h; exact ⟨by omega, hq⟩
      | some b2 =>
        rw [hb] at h
        have := pBest_lt hb
        by_cases hc : ch A b2 4 ≤ ch A k 4
        · simp only [hc, if_true] at h; cases h; exact ⟨by omega, this.2⟩
        · simp only [hc, if_false] at h; cases h; exact ⟨by omega, hq⟩
    · rw [if_neg hq] at h
      have := pBest_lt h
      exact ⟨by omega, this.2⟩
theorem x0_countTo {M : Mem} {c0 : Nat} {A : Ab} (h : RCh M c0 A) (hm : nC A ≤ 12) (p : Int32) : f_X0_countTo M c0 p = some (nI (pCnt (fun c => decide (ch A c 1 = p)) (nC A))) := by
  unfold f_X0_countTo
  refine loop_up (f_X0_countTo_L4 M c0 p) (nC A) (fun k => nI (pCnt (fun c => decide (ch A c 1 = p)) k)) _ (fun n => ?_) (fun n k hk => ?_) 1000 (by omega)
  · rw [f_X0_countTo_L4, h.1, if_pos (nI_le (Nat.le_refl _) (by omega))]
  · rw [f_X0_countTo_L4, h.1, if_neg (nI_ge hk (by omega)), ck_nI (by omega) (by omega), cl_nI (by omega), (h.2 k hk).2.1]
    by_cases hq : ch A k 1 = p
    · simp only [if_pos hq, nm, f_X0_countTo_L25, pCnt, hq, decide_true, if_true, lit_nI, nI_add]
    · simp only [if_neg hq, nm, f_X0_countTo_L25, pCnt, hq, decide_false, lit_nI, nI_add, if_false, Nat.add_zero, Bool.false_eq_true]
theorem x0_ofLeastClockTo {M : Mem} {c0 : Nat} {A : Ab} (h : RCh M c0 A) (hm : nC A ≤ 12) (p : Int32) : f_X0_ofLeastClockTo M c0 p = some (oI (pBest A p (nC A))) := by
  unfold f_X0_ofLeastClockTo
  refine loop_up (f_X0_ofLeastClockTo_L4 M c0 p) (nC A) (fun k => oI (pBest A p k)) _ (fun n => ?_) (fun n k hk => ?_) 1000 (by omega)
  · rw [f_X0_ofLeastClockTo_L4, h.1, if_pos (nI_le (Nat.le_refl _) (by omega))]
  · rw [f_X0_ofLeastClockTo_L4, h.1, if_neg (nI_ge hk (by omega)), ck_nI (by omega) (by omega), cl_nI (by omega), (h.2 k hk).2.1]
    by_cases hq : ch A k 1 = p
    · rw [if_pos hq]
      cases hb : pBest A p k with
      | none =>
        simp only [oI_none, if_true, f_X0_ofLeastClockTo_L42, f_X0_ofLeastClockTo_L44, nm, pBest, hq, hb, oI_some, lit_nI, nI_add]
      | some b =>
        have hl := (pBest_lt hb).1
        rw [oI_some, if_neg (nI_m1 (by omega)), ck_nI (by omega) (by omega), ck_nI (by omega) (by omega), cl_nI (by omega), (h.2 k hk).2.2.2.2.1, (h.2 b (by omega)).2.2.2.2.1]
        by_cases hc : ch A b 4 ≤ ch A k 4
        · simp only [hc, if_true, f_X0_ofLeastClockTo_L42, f_X0_ofLeastClockTo_L44, nm, pBest, hq, hb, oI_some, lit_nI, nI_add]
        · simp only [hc, if_false, if_true, f_X0_ofLeastClockTo_L42, f_X0_ofLeastClockTo_L44, nm, pBest, hq, hb, oI_some, lit_nI, nI_add]
    · simp only [if_neg hq, f_X0_ofLeastClockTo_L44, nm, pBest, hq, if_false, lit_nI, nI_add]
theorem fstIx_none_succ {f : Nat → Bool} {k : Nat} (h : fstIx f k = none) (hk : f k = false) : fstIx f (k + 1) = none := by
  unfold fstIx
  rw [h]
  simp [hk]
theorem fstIx_some_at {f : Nat → Bool} {k m : Nat} (h : fstIx f k = none) (hk : f k = true) (hm : k < m) : fstIx f m = some k := by
  have h1 : fstIx f (k + 1) = some k := by
    unfold fstIx
    rw [h]
    simp [hk]
  have h2 := fstIx_mono h1 (m - (k + 1))
  rwa [show k + 1 + (m - (k + 1)) = m by omega] at h2
/-- a loop that ends at the first hit -/
theorem loop_fst {σ R : Type} (F : Nat → σ → Int32 → Option R) (m : Nat) (acc : Nat → σ) (f : Nat → Bool) (res : Option Nat → Option R) (hex : ∀ n, fstIx f m = none → F (n + 1) (acc m) (nI m) = res none) (hit : ∀ n k, k < m → fstIx f k = none → f k = true → F (n + 1) (acc k) (nI k) = res (some k)) (hst : ∀ n k, k < m → fstIx f k = none → f k = false → F (n + 1) (acc k) (nI k) = F n (acc (k + 1)) (nI (k + 1))) : ∀ fuel, m < fuel → F fuel (acc 0) (nI 0) = res (fstIx f m) := by
  have key : ∀ d k fuel, k + d = m → d < fuel → fstIx f k = none → F fuel (acc k) (nI k) = res (fstIx f m) := by
    intro d
    induction d with
    | zero =>
      intro k fuel hk hf h0
      obtain ⟨n, rfl⟩ : ∃ n, fuel = n + 1 := ⟨fuel - 1, by omega⟩
      have : k = m := by omega
      subst this
      rw [h0]
      exact hex n h0
    | succ d ih =>
      intro k fuel hk hf h0
      obtain ⟨n, rfl⟩ : ∃ n, fuel = n + 1 := ⟨fuel - 1, by omega⟩
      cases hq : f k with
      | true => rw [fstIx_some_at h0 hq (by omega)]; exact hit n k (by omega) h0 hq
      | false =>
        rw [hst n k (by omega) h0 hq]
        exact ih (k + 1) n (by omega) (by omega) (fstIx_none_succ h0 hq)
  intro fuel hf
  exact key m 0 fuel (by omega) hf rfl
def isWay (A : Ab) (p q : Int32) (c : Nat) : Bool := decide (ch A c 0 = p ∧ ch A c 1 = q)
theorem x0_find {M : Mem} {c0 : Nat} {A : Ab} (h : RCh M c0 A) (hm : nC A ≤ 12) (p q : Int32) : f_X0_find M c0 p q = some (oI (fstIx (isWay A p q) (nC A))) := by
  unfold f_X0_find
  refine loop_fst (fun n (_ : Unit) k => f_X0_find_L2 M c0 p q n k) (nC A) (fun _ => ()) (isWay A p q) (fun x => some (oI x)) (fun n _ => ?_) (fun n k hk _ hf => ?_) (fun n k hk _ hf => ?_) 1000 (by omega)
  · show f_X0_find_L2 M c0 p q (n + 1) (nI (nC A)) = _
    rw [f_X0_find_L2, h.1, if_pos (nI_le (Nat.le_refl _) (by omega))]
    rfl
  · show f_X0_find_L2 M c0 p q (n + 1) (nI k) = _
    have hw := of_decide_eq_true hf
    rw [f_X0_find_L2, h.1, if_neg (nI_ge hk (by omega)), ck_nI (by omega) (by omega), ck_nI (by omega) (by omega), cl_nI (by omega), (h.2 k hk).1, (h.2 k hk).2.1, if_pos hw.1, if_pos hw.2]
    rfl
  · show f_X0_find_L2 M c0 p q (n + 1) (nI k) = f_X0_find_L2 M c0 p q n (nI (k + 1))
    have hw := of_decide_eq_false hf
    rw [f_X0_find_L2, h.1, if_neg (nI_ge hk (by omega)), ck_nI (by omega) (by omega), ck_nI (by omega) (by omega), cl_nI (by omega), (h.2 k hk).1, (h.2 k hk).2.1]
    by_cases h1 : ch A k 0 = p
    · rw [if_pos h1, if_neg (fun h2 => hw ⟨h1, h2⟩)]
      simp only [f_X0_find_L32, nm, lit_nI, nI_add]
    · rw [if_neg h1]
      simp only [f_X0_find_L32, nm, lit_nI, nI_add]
def isProm (A : Ab) (p t : Int32) (c : Nat) : Bool := decide (ch A c 0 = p ∧ ¬ ch A c 4 ≤ t + ch A c 2)
theorem x0_promiseMoreThan {M : Mem} {c0 : Nat} {A : Ab} (h : RCh M c0 A) (hm : nC A ≤ 12) (p t : Int32) : f_X0_promiseMoreThan M c0 p t = some (bI (fstIx (isProm A p t) (nC A)).isSome) := by
  unfold f_X0_promiseMoreThan
  refine loop_fst (fun n (_ : Unit) k => f_X0_promiseMoreThan_L2 M c0 p t n k) (nC A) (fun _ => ()) (isProm A p t) (fun x => some (bI x.isSome)) (fun n _ => ?_) (fun n k hk _ hf => ?_) (fun n k hk _ hf => ?_) 1000 (by omega)
  · show f_X0_promiseMoreThan_L2 M c0 p t (n + 1) (nI (nC A)) = _
    rw [f_X0_promiseMoreThan_L2, h.1, if_pos (nI_le (Nat.le_refl _) (by omega))]
    rfl
  · show f_X0_promiseMoreThan_L2 M c0 p t (n + 1) (nI k) = _
    have hw := of_decide_eq_true hf
    rw [f_X0_promiseMoreThan_L2, h.1, if_neg (nI_ge hk (by omega)), ck_nI (by omega) (by omega), ck_nI (by omega) (by omega), ck_nI (by omega) (by omega), cl_nI (by omega), (h.2 k hk).1, (h.2 k hk).2.2.1, (h.2 k hk).2.2.2.2.1, if_pos hw.1, if_neg hw.2]
    rfl
  · show f_X0_promiseMoreThan_L2 M c0 p t (n + 1) (nI k) = f_X0_promiseMoreThan_L2 M c0 p t n (nI (k + 1))
    have hw := of_decide_eq_false hf
    rw [f_X0_promiseMoreThan_L2, h.1, if_neg (nI_ge hk (by omega)), ck_nI (by omega) (by omega), ck_nI (by omega) (by omega), ck_nI (by omega) (by omega), cl_nI (by omega), (h.2 k hk).1, (h.2 k hk).2.2.1, (h.2 k hk).2.2.2.2.1]
    by_cases h1 : ch A k 0 = p
    · rw [if_pos h1, if_pos (Classical.byContradiction (fun h2 => hw ⟨h1, h2⟩))]
      simp only [f_X0_promiseMoreThan_L39, nm, lit_nI, nI_add]
    · rw [if_neg h1]
      simp only [f_X0_promiseMoreThan_L39, nm, lit_nI, nI_add]
/-- of the channels from p that at a place -/
def isPlace (A : Ab) (p : Int32) (pl : Nat) (c : Nat) : Bool := decide (ch A c 0 = p ∧ pCnt (fun c => decide (ch A c 0 = p)) c = pl)
theorem x0_atPlaceFrom {M : Mem} {c0 : Nat} {A : Ab} (h : RCh M c0 A) (hm : nC A ≤ 12) (p : Int32) {pl : Nat} (hpl : pl < 2147483648) : f_X0_atPlaceFrom M c0 p (nI pl) = some (oI (fstIx (isPlace A p pl) (nC A))) := by
  unfold f_X0_atPlaceFrom
  refine loop_fst (f_X0_atPlaceFrom_L5 M c0 p (nI pl)) (nC A) (fun k => nI (pCnt (fun c => decide (ch A c 0 = p)) k)) (isPlace A p pl) (fun x => some (oI x)) (fun n _ => ?_) (fun n k hk _ hf => ?_) (fun n k hk _ hf => ?_) 1000 (by omega)
  · rw [f_X0_atPlaceFrom_L5, h.1, if_pos (nI_le (Nat.le_refl _) (by omega))]
    rfl
  · have hw := of_decide_eq_true hf
    rw [f_X0_atPlaceFrom_L5, h.1, if_neg (nI_ge hk (by omega)), ck_nI (by omega) (by omega), cl_nI (by omega), (h.2 k hk).1, if_pos hw.1, hw.2, if_pos rfl]
    rfl
  · have hw := of_decide_eq_false hf
    have hle := pCnt_le (fun c => decide (ch A c 0 = p)) k
    rw [f_X0_atPlaceFrom_L5, h.1, if_neg (nI_ge hk (by omega)), ck_nI (by omega) (by omega), cl_nI (by omega), (h.2 k hk).1]
    by_cases h1 : ch A k 0 = p
    · rw [if_pos h1, if_neg (fun h2 => hw ⟨h1, (nI_eq (by omega) hpl).mp h2⟩)]
      simp only [f_X0_atPlaceFrom_L36, nm, lit_nI, nI_add, pCnt, h1, decide_true, if_true]
    · simp only [if_neg h1, f_X0_atPlaceFrom_L36, nm, lit_nI, nI_add, pCnt, h1, decide_false, if_false, Nat.add_zero, Bool.false_eq_true]
