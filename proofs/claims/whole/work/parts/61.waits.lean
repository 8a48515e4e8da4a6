/-! sets of parts; waits -/
def adds (f : Nat → Bool) (t : Nat) : Nat → Bool := fun q => f q || decide (q = t)
theorem pSet_congr {f g : Nat → Bool} : ∀ {n : Nat}, (∀ q, q < n → f q = g q) → pSet f n = pSet g n
  | 0, _ => rfl
  | n + 1, h => by
    show (if f n = true then pSet f n ||| ((1 : Int32) <<< (nI n &&& 31)) else pSet f n) = (if g n = true then pSet g n ||| ((1 : Int32) <<< (nI n &&& 31)) else pSet g n)
    rw [pSet_congr (fun q hq => h q (by omega)), h n (by omega)]
def fn6 (n : Nat) : Nat → Bool := fun k => n.testBit k
def cod (f : Nat → Bool) : Nat → Nat
  | 0 => 0
  | k + 1 => cod f k + (if f k = true then 2 ^ k else 0)
theorem cod_ok : ∀ b0 b1 b2 b3 b4 b5 : Bool, ∃ n, n < 64 ∧ n.testBit 0 = b0 ∧ n.testBit 1 = b1 ∧ n.testBit 2 = b2 ∧ n.testBit 3 = b3 ∧ n.testBit 4 = b4 ∧ n.testBit 5 = b5 := fun b0 b1 b2 b3 b4 b5 =>
  ⟨b0.toNat + 2 * b1.toNat + 4 * b2.toNat + 8 * b3.toNat + 16 * b4.toNat + 32 * b5.toNat, by
    cases b0 <;> cases b1 <;> cases b2 <;> cases b3 <;> cases b4 <;> cases b5 <;> decide⟩
theorem fn6_ex (f : Nat → Bool) : ∃ n, n < 64 ∧ ∀ q, q < 6 → f q = fn6 n q := by
  obtain ⟨n, h, h0, h1, h2, h3, h4, h5⟩ := cod_ok (f 0) (f 1) (f 2) (f 3) (f 4) (f 5)
  refine ⟨n, h, fun q hq => ?_⟩
  rcases (show q = 0 ∨ q = 1 ∨ q = 2 ∨ q = 3 ∨ q = 4 ∨ q = 5 by omega) with rfl | rfl | rfl | rfl | rfl | rfl
  · exact h0.symm
  · exact h1.symm
  · exact h2.symm
  · exact h3.symm
  · exact h4.symm
  · exact h5.symm
theorem or_dec : ∀ n, n < 64 → ∀ t, t < 6 → pSet (fn6 n) 6 ||| ((1 : Int32) <<< (nI t &&& 31)) = pSet (adds (fn6 n) t) 6 := by decide +kernel
theorem and_dec : ∀ n, n < 64 → ∀ t, t < 6 → (decide ((pSet (fn6 n) 6 &&& ((1 : Int32) <<< (nI t &&& 31))) = 0)) = !(fn6 n t) := by decide +kernel
theorem has_dec : ∀ n, n < 64 → ∀ t, t < 6 → (decide (((pSet (fn6 n) 6 >>> (nI t &&& 31)) &&& (1 : Int32)) = 1)) = fn6 n t := by decide +kernel
theorem or_bs {f : Nat → Bool} {t : Nat} (ht : t < 6) : pSet f 6 ||| ((1 : Int32) <<< (nI t &&& 31)) = pSet (adds f t) 6 := by
  obtain ⟨n, h1, h2⟩ := fn6_ex f
  rw [pSet_congr h2, or_dec n h1 t ht]
  exact pSet_congr (fun q hq => by unfold adds; rw [h2 q hq])
theorem and_bs {f : Nat → Bool} {t : Nat} (ht : t < 6) : ((pSet f 6 &&& ((1 : Int32) <<< (nI t &&& 31))) = 0) ↔ f t = false := by
  obtain ⟨n, h1, h2⟩ := fn6_ex f
  have h := and_dec n h1 t ht
  rw [pSet_congr h2, h2 t ht]
  constructor
  · intro q
    rw [decide_eq_true q] at h
    cases hv : fn6 n t with
    | false => rfl
    | true => rw [hv] at h; cases h
  · intro q
    rw [q] at h
    exact of_decide_eq_true h
theorem has_bs {f : Nat → Bool} {t : Nat} (ht : t < 6) : (((pSet f 6 >>> (nI t &&& 31)) &&& (1 : Int32)) = 1) ↔ f t = true := by
  obtain ⟨n, h1, h2⟩ := fn6_ex f
  have h := has_dec n h1 t ht
  rw [pSet_congr h2, h2 t ht]
  constructor
  · intro q
    rw [decide_eq_true q] at h
    exact h.symm
  · intro q
    rw [q] at h
    exact of_decide_eq_true h
theorem pCnt_congr {f g : Nat → Bool} : ∀ {n : Nat}, (∀ q, q < n → f q = g q) → pCnt f n = pCnt g n
  | 0, _ => rfl
  | n + 1, h => by
    show pCnt f n + (if f n = true then 1 else 0) = pCnt g n + (if g n = true then 1 else 0)
    rw [pCnt_congr (fun q hq => h q (by omega)), h n (by omega)]
theorem pCnt_full {f : Nat → Bool} : ∀ {n : Nat}, pCnt f n = n → ∀ t, t < n → f t = true
  | 0, _, t, ht => absurd ht (Nat.not_lt_zero t)
  | n + 1, h, t, ht => by
    have h : pCnt f n + (if f n = true then 1 else 0) = n + 1 := h
    have hl := pCnt_le f n
    by_cases c : f n = true
    · rw [if_pos c] at h
      by_cases e : t = n
      · rw [e]; exact c
      · exact pCnt_full (n := n) (by omega) t (by omega)
    · rw [if_neg c] at h
      omega
theorem pCnt_adds {f : Nat → Bool} {t : Nat} (hf : f t = false) : ∀ {n : Nat}, t < n → pCnt (adds f t) n = pCnt f n + 1
  | 0, ht => absurd ht (Nat.not_lt_zero t)
  | n + 1, ht => by
    show pCnt (adds f t) n + (if adds f t n = true then 1 else 0) = pCnt f n + (if f n = true then 1 else 0) + 1
    by_cases e : t = n
    · subst e
      have h1 : pCnt (adds f t) t = pCnt f t := pCnt_congr (fun q hq => by
        unfold adds
        rw [decide_eq_false (by omega), Bool.or_false])
      have h2 : adds f t t = true := by unfold adds; rw [decide_eq_true rfl, Bool.or_true]
      rw [h1, h2, hf, if_pos rfl, if_neg (by decide)]
    · have h2 : adds f t n = f n := by unfold adds; rw [decide_eq_false (fun q => e q.symm), Bool.or_false]
      rw [h2, pCnt_adds hf (n := n) (by omega)]
      omega
theorem adds_same {f : Nat → Bool} {t : Nat} (h : f t = true) : adds f t = f := by
  funext q
  unfold adds
  by_cases e : q = t
  · rw [e, h]; rfl
  · rw [decide_eq_false e, Bool.or_false]
-- who waits for whom
def frN (A : Ab) (c : Nat) : Nat := (ch A c 0).toNatClampNeg
theorem WCh_fr {A : Ab} (h : WCh A) {c : Nat} (hc : c < nC A) (hs : WS A) : ch A c 0 = nI (frN A c) ∧ frN A c < nP A := by
  obtain ⟨f, t, pr, de, h0, h1, h2, h3, h4, h5, h6⟩ := h c hc
  have hP := hs.1
  unfold frN
  rw [h0, cl_nI (by omega)]
  exact ⟨rfl, h4⟩
def nxtW (A : Ab) (q : Nat) : Option Nat := match waitA A q with
  | none => none
  | some c => some (frN A c)
def wtC (A : Ab) : Nat → (Nat → Bool) → Nat → (Nat → Bool)
  | 0, f, _ => f
  | d + 1, f, q => match nxtW A q with
    | none => f
    | some q' => wtC A d (adds f q') q'
theorem wtC_none {A : Ab} {d : Nat} {f : Nat → Bool} {q : Nat} (h : nxtW A q = none) : wtC A d f q = f := by
  cases d with
  | zero => rfl
  | succ d =>
    show (match nxtW A q with
      | none => f
      | some q' => wtC A d (adds f q') q') = f
    rw [h]
theorem wtC_some {A : Ab} {d : Nat} {f : Nat → Bool} {q q' : Nat} (h : nxtW A q = some q') : wtC A (d + 1) f q = wtC A d (adds f q') q' := by
  show (match nxtW A q with
    | none => f
    | some q' => wtC A d (adds f q') q') = _
  rw [h]
theorem wtC_closed {A : Ab} {f : Nat → Bool} (hc : ∀ x, f x = true → ∀ y, nxtW A x = some y → f y = true) : ∀ d q, f q = true → wtC A d f q = f
  | 0, _, _ => rfl
  | d + 1, q, hq => by
    cases hn : nxtW A q with
    | none => exact wtC_none hn
    | some y =>
      have hy := hc q hq y hn
      rw [wtC_some hn, adds_same hy]
      exact wtC_closed hc d y hy
theorem x4_wtLoop {M : Mem} {S : AR} (c : CS M S) (hw : WR S) : ∀ d k fuel f q, k + d = 6 → d < fuel → q < 6 → f_X4_waits_L18 M 0 fuel (pSet f 6) (nI q) (nI k) = some (pSet (wtC S.1 d f q) 6) := by
  have hP := hw.1.1.1
  have hC := hw.1.1.2.1
  intro d
  induction d with
  | zero =>
    intro k fuel f q hk hf hq
    obtain ⟨m, rfl⟩ : ∃ m, fuel = m + 1 := ⟨fuel - 1, by omega⟩
    rw [f_X4_waits_L18, if_pos (show (6 : Int32) ≤ nI k from nI_le (a := 6) (by omega) (by omega))]
    rfl
  | succ d ih =>
    intro k fuel f q hk hf hq
    obtain ⟨m, rfl⟩ : ∃ m, fuel = m + 1 := ⟨fuel - 1, by omega⟩
    rw [f_X4_waits_L18, if_neg (show ¬ (6 : Int32) ≤ nI k from nI_ge (b := 6) (by omega) (by omega)), x3_channelWaitedFor c.1 hw.1.1 hq, bd_s]
    cases hn : waitA S.1 q with
    | none =>
      rw [oI_none, if_pos rfl, wtC_none (show nxtW S.1 q = none by unfold nxtW; rw [hn])]
    | some cc =>
      have hcl := (pBest_lt (waitA_lt hn)).1
      obtain ⟨g1, g2⟩ := WCh_fr hw.1.2.1 hcl hw.1.1
      have b0 : rd M (0 + 1 + 1 + 1) cc = nI (frN S.1 cc) := ((c.1.1.2 cc hcl).1).trans g1
      rw [oI_some, if_neg (nI_m1 (by omega)), ck_nI (by omega) (by omega), cl_nI (by omega), b0, nm_to rfl, or_bs (by omega), nm_to rfl, nm_to (nI_1 _).symm, wtC_some (show nxtW S.1 q = some (frN S.1 cc) by unfold nxtW; rw [hn])]
      exact ih (k + 1) m _ _ (by omega) (by omega) (by omega)
theorem x5_wtLoop {M : Mem} {S : AR} {B : Bg} (m : MS M S B) (hw : WR S) : ∀ d fuel f q, d + 2 ≤ fuel → q < 6 → (∀ x, f x = true → x ≠ q → ∀ y, nxtW S.1 x = some y → f y = true) → pCnt f 6 + d = 6 → f_X5_waits_L18 M 157 fuel (pSet f 6) (nI q) 1 = some (pSet (wtC S.1 d f q) 6) := by
  have hP := hw.1.1.1
  have hC := hw.1.1.2.1
  have hstop : ∀ k (s : Int32) (v : Int32), f_X5_waits_L18 M 157 (k + 1) s v 0 = some s := fun k s v => by rw [f_X5_waits_L18, if_pos rfl]
  intro d
  induction d with
  | zero =>
    intro fuel f q hf hq hi hcn
    obtain ⟨n, rfl⟩ : ∃ n, fuel = n + 1 + 1 := ⟨fuel - 2, by omega⟩
    rw [f_X5_waits_L18, if_neg (by decide), x5_waitsBy m.1 hw.1.1 m.2.2 hw.1.wn (by omega), bd_s]
    cases hn : waitA S.1 q with
    | none =>
      rw [oI_none, if_pos rfl]
      show f_X5_waits_L18 M 157 (n + 1) (pSet f 6 ||| 0) (-1) 0 = _
      rw [hstop, Int32.or_zero]
      rfl
    | some cc =>
      have hcl := (pBest_lt (waitA_lt hn)).1
      obtain ⟨g1, g2⟩ := WCh_fr hw.1.2.1 hcl hw.1.1
      have b0 : rd M (157 + 1) (0 + 28 + 7 * cc + 0) = nI (frN S.1 cc) := (m.1.1.2 cc 0 hcl (by omega)).trans g1
      have i0 : nI (0 + 28 + 7 * cc) + 0 = nI (0 + 28 + 7 * cc + 0) := nI_add _ 0
      have hb := pCnt_full (show pCnt f 6 = 6 by omega) (frN S.1 cc) (by omega)
      have hh : f_X5_has (pSet f 6) (nI (frN S.1 cc)) = some 1 := by
        unfold f_X5_has
        rw [if_pos ((has_bs (by omega)).mpr hb)]
        rfl
      rw [oI_some, if_neg (nI_m1 (by omega)), x5_at0, bd_s, i0, ck_nI (by omega) (by omega), cl_nI (by omega), b0]
      unfold f_X5_waits_L53
      rw [if_neg (nI_m1 (by omega)), hh, bd_s, if_neg (by decide)]
      show f_X5_waits_L18 M 157 (n + 1) (pSet f 6 ||| 0) (nI (frN S.1 cc)) 0 = _
      rw [hstop, Int32.or_zero]
      rfl
  | succ d ih =>
    intro fuel f q hf hq hi hcn
    obtain ⟨n, rfl⟩ : ∃ n, fuel = n + 1 + 1 := ⟨fuel - 2, by omega⟩
    rw [f_X5_waits_L18, if_neg (by decide), x5_waitsBy m.1 hw.1.1 m.2.2 hw.1.wn (by omega), bd_s]
    cases hn : waitA S.1 q with
    | none =>
      rw [oI_none, if_pos rfl, wtC_none (show nxtW S.1 q = none by unfold nxtW; rw [hn])]
      show f_X5_waits_L18 M 157 (n + 1) (pSet f 6 ||| 0) (-1) 0 = _
      rw [hstop, Int32.or_zero]
    | some cc =>
      have hcl := (pBest_lt (waitA_lt hn)).1
      obtain ⟨g1, g2⟩ := WCh_fr hw.1.2.1 hcl hw.1.1
      have hnx : nxtW S.1 q = some (frN S.1 cc) := by unfold nxtW; rw [hn]
      have b0 : rd M (157 + 1) (0 + 28 + 7 * cc + 0) = nI (frN S.1 cc) := (m.1.1.2 cc 0 hcl (by omega)).trans g1
      have i0 : nI (0 + 28 + 7 * cc) + 0 = nI (0 + 28 + 7 * cc + 0) := nI_add _ 0
      rw [oI_some, if_neg (nI_m1 (by omega)), x5_at0, bd_s, i0, ck_nI (by omega) (by omega), cl_nI (by omega), b0, wtC_some hnx]
      unfold f_X5_waits_L53
      cases hb : f (frN S.1 cc) with
      | true =>
        have hh : f_X5_has (pSet f 6) (nI (frN S.1 cc)) = some 1 := by
          unfold f_X5_has
          rw [if_pos ((has_bs (by omega)).mpr hb)]
          rfl
        rw [if_neg (nI_m1 (by omega)), hh, bd_s, if_neg (by decide), adds_same hb, wtC_closed (fun x hx y hy => ?_) d _ hb]
        · show f_X5_waits_L18 M 157 (n + 1) (pSet f 6 ||| 0) (nI (frN S.1 cc)) 0 = _
          rw [hstop, Int32.or_zero]
        · by_cases e : x = q
          · rw [e, hnx] at hy
            cases hy
            exact hb
          · exact hi x hx e y hy
      | false =>
        have hh : f_X5_has (pSet f 6) (nI (frN S.1 cc)) = some 0 := by
          unfold f_X5_has
          rw [if_neg (fun z => by
            have := (has_bs (by omega)).mp z
            rw [hb] at this
            cases this)]
          rfl
        rw [if_neg (nI_m1 (by omega)), hh, bd_s, if_pos rfl]
        show f_X5_waits_L18 M 157 (n + 1) (pSet f 6 ||| ((1 : Int32) <<< (nI (frN S.1 cc) &&& 31))) (nI (frN S.1 cc)) 1 = _
        rw [or_bs (by omega)]
        refine ih (n + 1) (adds f (frN S.1 cc)) (frN S.1 cc) (by omega) (by omega) (fun x hx hxq y hy => ?_) (by rw [pCnt_adds hb (by omega)]; omega)
        have hmono : ∀ z, f z = true → adds f (frN S.1 cc) z = true := fun z hz => by unfold adds; rw [hz]; rfl
        have hx2 : f x = true := by
          unfold adds at hx
          rw [decide_eq_false hxq, Bool.or_false] at hx
          exact hx
        by_cases e : x = q
        · rw [e, hnx] at hy
          cases hy
          unfold adds
          rw [decide_eq_true rfl, Bool.or_true]
        · exact hmono y (hi x hx2 e y hy)
theorem st_waits : ST_waits INV := by
  intro k M x1 hk hI
  have hI2 := INV_mono k M hI
  obtain ⟨S, B, c, m, hw, hfm, hb, himg⟩ := hI
  have hP := hw.1.1.1
  unfold f_X4_waits f_X5_waits
  rcases isPart_c hw x1 with hx | ⟨p, hp, rfl⟩
  · obtain ⟨a1, a2⟩ := isPart_f c m hw hx
    rw [a1, a2, bd_s, bd_s, if_neg (show ¬ (1 : Int32) = 0 from by decide), if_pos (show (0 : Int32) = 0 from rfl)]
    exact ⟨_, rfl, rfl, hI2⟩
  · obtain ⟨a1, a2⟩ := isPart_t c m hw hp
    rw [a1, a2, bd_s, bd_s, if_pos (show (0 : Int32) = 0 from rfl), if_neg (show ¬ (1 : Int32) = 0 from by decide)]
    have e0 : pSet (fun _ => false) 6 = 0 := rfl
    have h4 := x4_wtLoop c hw 6 0 1000 (fun _ => false) p (by omega) (by omega) (by omega)
    have h5 := x5_wtLoop m hw 6 1000 (fun _ => false) p (by omega) (by omega) (fun x hx => by cases hx) rfl
    rw [e0] at h4 h5
    exact ⟨_, h4, h5, hI2⟩
