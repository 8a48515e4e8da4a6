/-! the model's row, its readers of events -/
def RM (M : Mem) (r : Nat) (A : Ab) (B : Bg) : Prop := RMc M r A ∧ rd M 158 (r + 0) = nI (nP A) ∧ (∀ k, 2 ≤ k → k < 7 → rd M 158 (r + k) = sc A k) ∧ rd M 158 (r + 7) = nI (nH A) ∧ rd M 158 (r + 8) = nI (nA A) ∧ (∀ p, p < 6 → rd M 158 (r + 10 + p) = pt A 0 p ∧ rd M 158 (r + 16 + p) = pt A 1 p ∧ rd M 158 (r + 22 + p) = pt A 2 p) ∧ RMb M r B
/-- what holds of the events in every state -/
def WE (A : Ab) (B : Bg) : Prop := BgOK B A ∧ B.length ≤ 30 ∧ (∀ e, e < B.length → (Bt B e).1 < nP A) ∧ ∀ p, srt (ev A p)
theorem WE.six {A : Ab} {B : Bg} (h : WE A B) (hs : WS A) : ∀ e, e < B.length → (Bt B e).1 < 6 := fun e he => by
  have := h.2.2.1 e he
  have := hs.1
  omega
theorem x5_firstTime {M : Mem} {r : Nat} {A : Ab} {B : Bg} (h : RM M r A B) (hs : WS A) (he : WE A B) (hr : r ≤ 786) {p : Nat} (hp : p < 2147483648) : f_X5_firstTime M 157 (nI r) (nI p) = some (headT (ev A p)) := by
  unfold f_X5_firstTime
  have hb := h.2.2.2.2.2.2
  have hl := he.2.1
  rw [x5_firstOf hb hl hr (he.six hs) hp]
  rcases pF_head he.1 (he.2.2.2 p) with ⟨h1, h2⟩ | ⟨x, L, e, h1, h2, h3, h4⟩
  · rw [h1, h2]
    simp only [bd, oE_none, if_true, f_X5_firstTime_L25, headT]
  · have e1 := (hb.2 e h3).2.1
    rw [h4] at e1
    have hne : ¬ nI (r + 112 + 5 * e) = -1 := nI_m1 (by omega)
    rw [h1, h2]
    simp only [bd, oE_some, hne, if_false]
    simp (disch := omega) only [lit_nI, nI_add, ck_nI, cl_nI, e1, f_X5_firstTime_L25, headT]
theorem x5_firstValue {M : Mem} {A : Ab} {B : Bg} (h : RM M 0 A B) (hs : WS A) (he : WE A B) {p : Nat} (hp : p < 2147483648) : f_X5_firstValue M 157 (nI p) = some (headV (ev A p)) := by
  unfold f_X5_firstValue
  have hb := h.2.2.2.2.2.2
  have hl := he.2.1
  have hf := x5_firstOf hb hl (by omega) (he.six hs) hp
  have hf : f_X5_firstOf M 157 0 (nI p) = some (oE 0 (pF B p B.length)) := hf
  rw [hf]
  rcases pF_head he.1 (he.2.2.2 p) with ⟨h1, h2⟩ | ⟨x, L, e, h1, h2, h3, h4⟩
  · rw [h1, h2]
    simp only [bd, oE_none, if_true, f_X5_firstValue_L24, headV]
  · have e1 := (hb.2 e h3).2.2.2.1
    rw [h4] at e1
    have hne : ¬ nI (0 + 112 + 5 * e) = -1 := nI_m1 (by omega)
    rw [h1, h2]
    simp only [bd, oE_some, hne, if_false]
    have e2 : rd M (157 + 1) (nI (0 + 112 + 5 * e) + 3).toNatClampNeg = x.2.2.2 := by
      show rd M 158 (nI (0 + 112 + 5 * e) + nI 3).toNatClampNeg = _
      rw [nI_add, cl_nI (by omega)]
      exact e1
    have e3 : ∀ X : Option Int32, ck (nI (0 + 112 + 5 * e) + 3) 1048 X = X := fun X => by
      show ck (nI (0 + 112 + 5 * e) + nI 3) 1048 X = X
      rw [nI_add, ck_nI (by omega) (by omega)]
    rw [e2, e3]
    rfl
/-- clocks and times stay at or below NEVER; an event's time is below it -/
def WN (A : Ab) : Prop := (∀ c, c < nC A → ch A c 4 ≤ 99999999) ∧ ∀ p, ∀ x ∈ ev A p, x.1 < 99999999
theorem safeA_le {A : Ab} (hn : WN A) (p : Int32) : safeA A p ≤ 99999999 := by
  unfold safeA
  cases hb : pBest A p (nC A) with
  | none => exact Int32.le_refl _
  | some c => exact hn.1 c (pBest_lt hb).1
theorem mayA_nil {A : Ab} (hn : WN A) {p : Nat} (h : ev A p = []) : mayA A p = false := by
  unfold mayA
  rw [h]
  exact decide_eq_false (fun q => q (safeA_le hn _))
theorem x5_may {M : Mem} {A : Ab} {B : Bg} (h : RM M 0 A B) (hs : WS A) (he : WE A B) (hn : WN A) {p : Nat} (hp : p < 2147483648) : f_X5_may M 157 (nI p) = some (bI (mayA A p)) := by
  unfold f_X5_may
  have hb := h.2.2.2.2.2.2
  have hl := he.2.1
  have hf : f_X5_firstOf M 157 0 (nI p) = some (oE 0 (pF B p B.length)) := x5_firstOf hb hl (by omega) (he.six hs) hp
  have ht : f_X5_firstTime M 157 0 (nI p) = some (headT (ev A p)) := x5_firstTime h hs he (by omega) hp
  rw [hf, ht, x5_safe h.1 hs.2.1]
  rcases pF_head he.1 (he.2.2.2 p) with ⟨h1, h2⟩ | ⟨x, L, e, h1, h2, h3, h4⟩
  · rw [h2, mayA_nil hn h1]
    rfl
  · have hne : ¬ nI (0 + 112 + 5 * e) = -1 := nI_m1 (by omega)
    rw [h2]
    simp only [bd, oE_some, hne, if_false]
    by_cases hc : safeA A (nI p) ≤ headT (ev A p)
    · have : mayA A p = false := by simp [mayA, hc]
      rw [if_pos hc, this]
      rfl
    · have : mayA A p = true := by simp [mayA, hc]
      rw [if_neg hc, this]
      rfl
theorem x5_allMay {M : Mem} {A : Ab} {B : Bg} (h : RM M 0 A B) (hs : WS A) (he : WE A B) (hn : WN A) : f_X5_allMay M 157 = some (pSet (mayA A) (nP A)) := by
  unfold f_X5_allMay
  have hP := hs.1
  have h0 : rd M (157 + 1) (0 : Int32).toNatClampNeg = nI (nP A) := h.2.1
  have hc0 : ∀ X : Option Int32, ck (0 : Int32) 1048 X = X := fun X => ck_nI (k := 0) (by omega) (by omega)
  refine loop_up (f_X5_allMay_L4 M 157) (nP A) (fun k => pSet (mayA A) k) _ (fun n => ?_) (fun n k hk => ?_) 1000 (by omega)
  · rw [f_X5_allMay_L4, hc0, h0, if_pos (nI_le (Nat.le_refl _) (by omega))]
  · have e0 := x5_may h hs he hn (p := k) (by omega)
    rw [f_X5_allMay_L4, hc0, h0, if_neg (nI_ge hk (by omega)), e0]
    cases hm : mayA A k with
    | true =>
      have h1 : ¬ (1 : Int32) = 0 := by decide
      simp only [bd, bI_t, h1, if_false, nm, f_X5_allMay_L30, pSet, hm, if_true]
      rw [nI_succ]
    | false =>
      simp only [bd, bI_f, if_true, nm, f_X5_allMay_L30, pSet, hm, Bool.false_eq_true, if_false]
      rw [nI_succ, Int32.or_zero]
theorem leastA_step {A : Ab} (hn : WN A) : ∀ k, headT (ev A (pMin A k)) ≤ 99999999
  | k => by
    cases h : ev A (pMin A k) with
    | nil => exact Int32.le_refl _
    | cons x L => exact Int32.le_of_lt (hn.2 _ x (by rw [h]; exact List.mem_cons_self))
/-- the least so far, as the model counts it -/
def pLeast (A : Ab) : Nat → Int32
  | 0 => 99999999
  | k + 1 => if pLeast A k ≤ headT (ev A k) then pLeast A k else headT (ev A k)
theorem headT_le {A : Ab} (hn : WN A) (p : Nat) : headT (ev A p) ≤ 99999999 := by
  cases h : ev A p with
  | nil => exact Int32.le_refl _
  | cons x L => exact Int32.le_of_lt (hn.2 _ x (by rw [h]; exact List.mem_cons_self))
theorem pLeast_eq {A : Ab} (hn : WN A) : ∀ k, 0 < k → pLeast A k = headT (ev A (pMin A k))
  | 0, h => absurd h (by omega)
  | 1, _ => by
    rw [pMin_1]
    show (if (99999999 : Int32) ≤ headT (ev A 0) then (99999999 : Int32) else headT (ev A 0)) = _
    by_cases hc : (99999999 : Int32) ≤ headT (ev A 0)
    · rw [if_pos hc]; exact Int32.le_antisymm hc (headT_le hn 0)
    · rw [if_neg hc]
  | k + 2, _ => by
    have ih := pLeast_eq hn (k + 1) (by omega)
    show (if pLeast A (k + 1) ≤ headT (ev A (k + 1)) then pLeast A (k + 1) else headT (ev A (k + 1))) = headT (ev A (if headT (ev A (pMin A (k + 1))) ≤ headT (ev A (k + 1)) then pMin A (k + 1) else k + 1))
    rw [ih]
    by_cases hc : headT (ev A (pMin A (k + 1))) ≤ headT (ev A (k + 1))
    · rw [if_pos hc, if_pos hc]
    · rw [if_neg hc, if_neg hc]
theorem x5_leastTime {M : Mem} {A : Ab} {B : Bg} (h : RM M 0 A B) (hs : WS A) (he : WE A B) (hn : WN A) (h00 : nP A = 0 → ev A 0 = []) : f_X5_leastTime M 157 = some (leastA A) := by
  unfold f_X5_leastTime
  have hP := hs.1
  have h0 : rd M (157 + 1) (0 : Int32).toNatClampNeg = nI (nP A) := h.2.1
  have hc0 : ∀ X : Option Int32, ck (0 : Int32) 1048 X = X := fun X => ck_nI (k := 0) (by omega) (by omega)
  have hlast : pLeast A (nP A) = leastA A := by
    by_cases hz : nP A = 0
    · unfold leastA
      rw [hz]
      show (99999999 : Int32) = headT (ev A 0)
      rw [h00 hz]
      rfl
    · exact pLeast_eq hn _ (by omega)
  rw [← hlast]
  refine loop_up (f_X5_leastTime_L5 M 157) (nP A) (fun k => pLeast A k) _ (fun n => ?_) (fun n k hk => ?_) 1000 (by omega)
  · rw [f_X5_leastTime_L5, hc0, h0, if_pos (nI_le (Nat.le_refl _) (by omega))]
  · have ht : f_X5_firstTime M 157 0 (nI k) = some (headT (ev A k)) := x5_firstTime h hs he (by omega) (by omega)
    rw [f_X5_leastTime_L5, hc0, h0, if_neg (nI_ge hk (by omega)), ht]
    by_cases hc : pLeast A k ≤ headT (ev A k)
    · simp only [bd, hc, if_true, f_X5_leastTime_L32, nm, pLeast]
      rw [nI_succ]
    · simp only [bd, hc, if_false, f_X5_leastTime_L32, nm, pLeast]
      rw [nI_succ]
theorem x5_waitsBy {M : Mem} {A : Ab} {B : Bg} (h : RM M 0 A B) (hs : WS A) (he : WE A B) (hn : WN A) {p : Nat} (hp : p < 2147483648) : f_X5_waitsBy M 157 (nI p) = some (oI (waitA A p)) := by
  unfold f_X5_waitsBy
  have hb := h.2.2.2.2.2.2
  have hl := he.2.1
  have hf : f_X5_firstOf M 157 0 (nI p) = some (oE 0 (pF B p B.length)) := x5_firstOf hb hl (by omega) (he.six hs) hp
  rw [hf, x5_may h hs he hn hp, x5_leastTo h.1 hs.2.1]
  unfold waitA
  rcases pF_head he.1 (he.2.2.2 p) with ⟨h1, h2⟩ | ⟨x, L, e, h1, h2, h3, h4⟩
  · rw [h2, h1]
    cases hbst : pBest A (nI p) (nC A) <;> rfl
  · have hne : ¬ nI (0 + 112 + 5 * e) = -1 := nI_m1 (by omega)
    have hlen : ¬ (ev A p).length = 0 := by rw [h1]; simp
    rw [h2]
    simp only [bd, oE_some, hne, if_false, hlen]
    cases hbst : pBest A (nI p) (nC A) with
    | none =>
      have hm : mayA A p = true := by
        unfold mayA safeA
        rw [hbst, h1]
        refine decide_eq_true (fun q => ?_)
        have q : (99999999 : Int32) ≤ x.1 := q
        have h9 := hn.2 p x (by rw [h1]; exact List.mem_cons_self)
        rw [Int32.le_iff_toInt_le] at q
        rw [Int32.lt_iff_toInt_lt] at h9
        omega
      rw [hm]
      rfl
    | some c =>
      by_cases hc : ch A c 4 ≤ headT (ev A p)
      · have hm : mayA A p = false := by
          unfold mayA safeA
          rw [hbst]
          exact decide_eq_false (fun q => q hc)
        rw [hm]
        simp only [hc, if_true, bI_f, f_X5_waitsBy_L27]
      · have hm : mayA A p = true := by
          unfold mayA safeA
          rw [hbst]
          exact decide_eq_true hc
        rw [hm]
        simp only [hc, if_false]
        rfl
