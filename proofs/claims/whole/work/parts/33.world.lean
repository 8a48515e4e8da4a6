/-! a World of the class, its readers -/
def Eg (L : List Ev) (j : Nat) : Ev := L.getD j (0, 0, 0, 0)
def RWt (M : Mem) (e : Nat) (L : List Ev) : Prop := rd M e 3 = nI L.length ∧ ∀ j, j < L.length → rd M (e + 1) j = (Eg L j).1 ∧ rd M (e + 2) j = (Eg L j).2.2.2 ∧ rd M (e + 3) j = (Eg L j).2.1
def RC (M : Mem) (w : Nat) (A : Ab) : Prop := RCh M (w + 1) A ∧ rd M w 5 = nI (nP A) ∧ (∀ k, 2 ≤ k → k < 7 → rd M w (k + 4) = sc A k) ∧ rd M w 11 = nI (nH A) ∧ (∀ k p, k < 3 → p < 6 → rd M (w + 10 + k) p = pt A k p) ∧ ∀ p, p < 6 → RWt M (w + 9 + 4 + 4 * p) (ev A p)
def headT (L : List Ev) : Int32 := match L with
  | [] => 99999999
  | x :: _ => x.1
def headV (L : List Ev) : Int32 := match L with
  | [] => -1
  | x :: _ => x.2.2.2
theorem loop_from {σ R : Type} (F : Nat → σ → Int32 → Option R) (i0 m : Nat) (acc : Nat → σ) (res : Option R) (hi : i0 ≤ m) (hex : ∀ n, F (n + 1) (acc m) (nI m) = res) (hst : ∀ n k, i0 ≤ k → k < m → F (n + 1) (acc k) (nI k) = F n (acc (k + 1)) (nI (k + 1))) : ∀ fuel, m < fuel → F fuel (acc i0) (nI i0) = res := by
  have key : ∀ d k fuel, i0 ≤ k → k + d = m → d < fuel → F fuel (acc k) (nI k) = res := by
    intro d
    induction d with
    | zero =>
      intro k fuel hi hk hf
      obtain ⟨n, rfl⟩ : ∃ n, fuel = n + 1 := ⟨fuel - 1, by omega⟩
      have : k = m := by omega
      subst this
      exact hex n
    | succ d ih =>
      intro k fuel hi hk hf
      obtain ⟨n, rfl⟩ : ∃ n, fuel = n + 1 := ⟨fuel - 1, by omega⟩
      rw [hst n k hi (by omega)]
      exact ih (k + 1) n (by omega) (by omega) (by omega)
  intro fuel hf
  exact key (m - i0) i0 fuel (Nat.le_refl _) (by omega) (by omega)
theorem x2_firstTime {M : Mem} {e : Nat} {L : List Ev} (h : RWt M e L) (hl : L.length ≤ 30) : f_X2_firstTime M e = some (headT L) := by
  cases L with
  | nil =>
    have h1 : rd M e 3 = 0 := h.1
    simp only [f_X2_firstTime, h1, if_true, f_X2_firstTime_L18, headT]
  | cons x L =>
    have h1 : ¬ rd M e 3 = 0 := by rw [h.1]; exact nI_ne0 (by simp) (by omega)
    have h2 := (h.2 0 (by simp)).1
    have h3 : (Eg (x :: L) 0).1 = x.1 := rfl
    rw [h3] at h2
    simp only [f_X2_firstTime, h1, if_false]
    simp (disch := omega) only [lit_nI, ck_nI, cl_nI, h2, f_X2_firstTime_L18, headT]
theorem x2_firstValue {M : Mem} {e : Nat} {L : List Ev} (h : RWt M e L) (hl : L.length ≤ 30) : f_X2_firstValue M e = some (headV L) := by
  cases L with
  | nil =>
    have h1 : rd M e 3 = 0 := h.1
    simp only [f_X2_firstValue, h1, if_true, f_X2_firstValue_L17, headV]
  | cons x L =>
    have h1 : ¬ rd M e 3 = 0 := by rw [h.1]; exact nI_ne0 (by simp) (by omega)
    have h2 := (h.2 0 (by simp)).2.1
    have h3 : (Eg (x :: L) 0).2.2.2 = x.2.2.2 := rfl
    rw [h3] at h2
    simp only [f_X2_firstValue, h1, if_false]
    simp (disch := omega) only [lit_nI, ck_nI, cl_nI, h2, f_X2_firstValue_L17, headV]
def pSum (f : Nat → Nat) : Nat → Nat
  | 0 => 0
  | k + 1 => pSum f k + f k
def totE (A : Ab) : Nat := pSum (fun p => (ev A p).length) (nP A)
/-- sizes that hold in every state -/
def WS (A : Ab) : Prop := nP A ≤ 6 ∧ nC A ≤ 12 ∧ nH A ≤ 30 ∧ ∀ p, (ev A p).length ≤ 30
theorem x3_eventsThatWait {M : Mem} {w : Nat} {A : Ab} (h : RC M w A) (hs : WS A) : f_X3_eventsThatWait M w = some (nI (totE A)) := by
  unfold f_X3_eventsThatWait
  have hP := hs.1
  refine loop_up (f_X3_eventsThatWait_L4 M w) (nP A) (fun k => nI (pSum (fun p => (ev A p).length) k)) _ (fun n => ?_) (fun n k hk => ?_) 1000 (by omega)
  · simp (disch := omega) only [f_X3_eventsThatWait_L4, h.2.1, le_nI, Nat.le_refl, if_true, totE]
  · have hkn : ¬ nP A ≤ k := by omega
    have e0 := (h.2.2.2.2.2 k (by omega)).1
    simp (disch := omega) only [f_X3_eventsThatWait_L4, h.2.1, le_nI, hkn, if_false, ck_nI, cl_nI, e0, nm, lit_nI, nI_add, pSum]
def pMin (A : Ab) : Nat → Nat
  | 0 => 0
  | k + 1 => if headT (ev A (pMin A k)) ≤ headT (ev A k) then pMin A k else k
theorem pMin_le (A : Ab) : ∀ k, pMin A k ≤ k
  | 0 => Nat.le_refl 0
  | k + 1 => by
    have := pMin_le A k
    unfold pMin
    split <;> omega
theorem pMin_lt (A : Ab) : ∀ k, 0 < k → pMin A k < k
  | 0, h => absurd h (by omega)
  | 1, _ => by
    unfold pMin
    split
    · exact Nat.lt_succ_of_le (Nat.le_of_eq rfl)
    · omega
  | k + 2, _ => by
    have := pMin_lt A (k + 1) (by omega)
    unfold pMin
    split <;> omega
theorem pMin_1 (A : Ab) : pMin A 1 = 0 := by
  have := pMin_lt A 1 (by omega)
  omega
theorem x3_partOfLeastTime {M : Mem} {w : Nat} {A : Ab} (h : RC M w A) (hs : WS A) : f_X3_partOfLeastTime M w = some (nI (pMin A (nP A))) := by
  unfold f_X3_partOfLeastTime
  have hP := hs.1
  by_cases h0 : nP A = 0
  · have h1 : f_X3_partOfLeastTime_L4 M w 1000 (nI 0) (nI 1) = some (nI (pMin A (nP A))) := by
      rw [h0]
      show f_X3_partOfLeastTime_L4 M w (999 + 1) (nI 0) (nI 1) = _
      rw [f_X3_partOfLeastTime_L4, h.2.1, h0, if_pos (nI_le (by omega) (by omega))]
      rfl
    exact h1
  · have key := loop_from (f_X3_partOfLeastTime_L4 M w) 1 (nP A) (fun k => nI (pMin A k)) (some (nI (pMin A (nP A)))) (by omega) (fun n => ?_) (fun n k h1 hk => ?_) 1000 (by omega)
    · have e1 : (nI (pMin A 1)) = nI 0 := by rw [pMin_1]
      have key : f_X3_partOfLeastTime_L4 M w 1000 (nI (pMin A 1)) (nI 1) = _ := key
      rw [e1] at key
      exact key
    · simp (disch := omega) only [f_X3_partOfLeastTime_L4, h.2.1, le_nI, Nat.le_refl, if_true]
    · have hkn : ¬ nP A ≤ k := by omega
      have hl := pMin_le A k
      have e0 := x2_firstTime (h.2.2.2.2.2 k (by omega)) (hs.2.2.2 k)
      have e1 := x2_firstTime (h.2.2.2.2.2 (pMin A k) (by omega)) (hs.2.2.2 _)
      rw [f_X3_partOfLeastTime_L4]
      by_cases hc : headT (ev A (pMin A k)) ≤ headT (ev A k)
      · have ep : pMin A (k + 1) = pMin A k := by show (if _ then _ else _) = _; rw [if_pos hc]
        rw [ep]
        simp (disch := omega) only [h.2.1, le_nI, hkn, if_false, ck_nI, cl_nI, e0, e1, bd, hc, if_true, f_X3_partOfLeastTime_L35, nm, lit_nI, nI_add]
      · have ep : pMin A (k + 1) = k := by show (if _ then _ else _) = _; rw [if_neg hc]
        rw [ep]
        simp (disch := omega) only [h.2.1, le_nI, hkn, if_false, ck_nI, cl_nI, e0, e1, bd, hc, f_X3_partOfLeastTime_L35, nm, lit_nI, nI_add]
def leastA (A : Ab) : Int32 := headT (ev A (pMin A (nP A)))
theorem x3_leastTime {M : Mem} {w : Nat} {A : Ab} (h : RC M w A) (hs : WS A) : f_X3_leastTime M w = some (leastA A) := by
  unfold f_X3_leastTime
  have hP := hs.1
  have hl := pMin_le A (nP A)
  have hl2 : pMin A (nP A) < 6 := by
    by_cases h0 : nP A = 0
    · omega
    · have := pMin_lt A (nP A) (by omega)
      omega
  have e1 := x2_firstTime (h.2.2.2.2.2 (pMin A (nP A)) hl2) (hs.2.2.2 _)
  rw [x3_partOfLeastTime h hs]
  simp (disch := omega) only [bd, ck_nI, cl_nI, e1, leastA]
theorem x3_safeOf {M : Mem} {w : Nat} {A : Ab} (h : RC M w A) (hs : WS A) (p : Int32) : f_X3_safeOf M w p = some (safeA A p) := by
  unfold f_X3_safeOf
  rw [x0_ofLeastClockTo h.1 hs.2.1]
  unfold safeA
  have hC := hs.2.1
  cases hb : pBest A p (nC A) with
  | none => simp only [bd, oI_none, if_true, f_X3_safeOf_L28]
  | some c =>
    have hl := (pBest_lt hb).1
    have e4 := (h.1.2 c hl).2.2.2.2.1
    have hne : ¬ nI c = -1 := nI_m1 (by omega)
    simp only [bd, oI_some, hne, if_false]
    simp (disch := omega) only [ck_nI, cl_nI, e4, f_X3_safeOf_L28]
def mayA (A : Ab) (p : Nat) : Bool := decide (¬ safeA A (nI p) ≤ headT (ev A p))
theorem x3_mayWork {M : Mem} {w : Nat} {A : Ab} (h : RC M w A) (hs : WS A) {p : Nat} (hp : p < 6) : f_X3_mayWork M w (nI p) = some (bI (mayA A p)) := by
  unfold f_X3_mayWork
  have e0 := x2_firstTime (h.2.2.2.2.2 p hp) (hs.2.2.2 p)
  have e1 := x3_safeOf h hs (nI p)
  simp (disch := omega) only [ck_nI, cl_nI, e0, e1, bd]
  by_cases hc : safeA A (nI p) ≤ headT (ev A p)
  · have : mayA A p = false := by simp [mayA, hc]
    rw [if_pos hc, this]
    rfl
  · have : mayA A p = true := by simp [mayA, hc]
    rw [if_neg hc, this]
    rfl
def pSet (f : Nat → Bool) : Nat → Int32
  | 0 => 0
  | k + 1 => if f k = true then pSet f k ||| ((1 : Int32) <<< (nI k &&& 31)) else pSet f k
theorem bI_t : bI true = 1 := rfl
theorem bI_f : bI false = 0 := rfl
theorem x3_partsThatMay {M : Mem} {w : Nat} {A : Ab} (h : RC M w A) (hs : WS A) : f_X3_partsThatMay M w = some (pSet (mayA A) (nP A)) := by
  unfold f_X3_partsThatMay
  have hP := hs.1
  refine loop_up (f_X3_partsThatMay_L4 M w) (nP A) (fun k => pSet (mayA A) k) _ (fun n => ?_) (fun n k hk => ?_) 1000 (by omega)
  · rw [f_X3_partsThatMay_L4, h.2.1, if_pos (nI_le (Nat.le_refl _) (by omega))]
  · have e0 := x3_mayWork h hs (p := k) (by omega)
    rw [f_X3_partsThatMay_L4, h.2.1, if_neg (nI_ge hk (by omega)), e0]
    cases hm : mayA A k with
    | true =>
      have h1 : ¬ (1 : Int32) = 0 := by decide
      simp only [bd, bI_t, h1, if_false, nm, f_X3_partsThatMay_L26, pSet, hm, if_true]
      rw [nI_succ]
    | false =>
      simp only [bd, bI_f, if_true, nm, f_X3_partsThatMay_L26, pSet, hm, Bool.false_eq_true, if_false]
      rw [nI_succ]
/-- the channel for which a part waits -/
def waitA (A : Ab) (p : Nat) : Option Nat := match pBest A (nI p) (nC A) with
  | none => none
  | some c => if (ev A p).length = 0 then none else if ch A c 4 ≤ headT (ev A p) then some c else none
theorem waitA_lt {A : Ab} {p c : Nat} (h : waitA A p = some c) : pBest A (nI p) (nC A) = some c := by
  unfold waitA at h
  cases hb : pBest A (nI p) (nC A) with
  | none => rw [hb] at h; cases h
  | some c2 =>
    rw [hb] at h
    simp only at h
    split at h
    · cases h
    · split at h
      · exact h
      · cases h
theorem x3_channelWaitedFor {M : Mem} {w : Nat} {A : Ab} (h : RC M w A) (hs : WS A) {p : Nat} (hp : p < 6) : f_X3_channelWaitedFor M w (nI p) = some (oI (waitA A p)) := by
  unfold f_X3_channelWaitedFor
  rw [x0_ofLeastClockTo h.1 hs.2.1]
  unfold waitA
  have hC := hs.2.1
  have hw := h.2.2.2.2.2 p hp
  have hl30 := hs.2.2.2 p
  cases hb : pBest A (nI p) (nC A) with
  | none => simp only [bd, oI_none, if_true, f_X3_channelWaitedFor_L47]
  | some c =>
    have hl := (pBest_lt hb).1
    have e4 := (h.1.2 c hl).2.2.2.2.1
    have hne : ¬ nI c = -1 := nI_m1 (by omega)
    have e0 := x2_firstTime hw hl30
    simp only [bd, oI_some, hne, if_false]
    by_cases h0 : (ev A p).length = 0
    · have h1 : rd M (w + 9 + 4 + 4 * p) 3 = nI 0 := by rw [hw.1, h0]
      simp (disch := omega) only [lit_nI, ck_nI, cl_nI, h1, if_true, f_X3_channelWaitedFor_L47, h0, oI_none]
    · have h1 : ¬ rd M (w + 9 + 4 + 4 * p) 3 = nI 0 := by rw [hw.1]; exact nI_ne0 (by omega) (by omega)
      by_cases hc : ch A c 4 ≤ headT (ev A p)
      · simp (disch := omega) only [lit_nI, ck_nI, cl_nI, h1, if_false, e0, e4, hc, if_true, h0, oI_some]
      · simp (disch := omega) only [lit_nI, ck_nI, cl_nI, h1, if_false, e0, e4, hc, h0, oI_none, f_X3_channelWaitedFor_L47]
