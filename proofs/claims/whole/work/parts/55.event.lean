/-! event -/
theorem RC_H {M : Mem} {w h a : Nat} {A : Ab} (hR : RC M w A) : RC (wr M w 11 (nI h)) w (stN A (nP A) (nC A) h a) := by
  obtain ⟨⟨a1, a2⟩, a3, a4, a5, a6, a7⟩ := hR
  refine ⟨⟨by rw [rd_wr, if_neg (by omega)]; exact a1, fun c hc => ?_⟩, by rw [rd_wr, if_neg (by omega)]; exact a3, fun k' q1 q2 => by rw [rd_wr, if_neg (by omega)]; exact a4 k' q1 q2, by rw [rd_wr, if_pos ⟨rfl, rfl⟩]; rfl, fun k' p q1 q2 => by rw [rd_wr, if_neg (by omega)]; exact a6 k' p q1 q2, fun p q1 => ⟨by rw [rd_wr, if_neg (by omega)]; exact (a7 p q1).1, fun j hj => ?_⟩⟩
  · rw [rd_wr, if_neg (by omega), rd_wr, if_neg (by omega), rd_wr, if_neg (by omega), rd_wr, if_neg (by omega), rd_wr, if_neg (by omega), rd_wr, if_neg (by omega), rd_wr, if_neg (by omega)]
    exact a2 c hc
  · rw [rd_wr, if_neg (by omega), rd_wr, if_neg (by omega), rd_wr, if_neg (by omega)]
    exact (a7 p q1).2 j hj
theorem RM_H {M : Mem} {r h : Nat} {A : Ab} {B : Bg} (hR : RM M r A B) (hC : nC A ≤ 12) : RM (wr M 158 (r + 7) (nI h)) r (stN A (nP A) (nC A) h (nA A)) B := by
  obtain ⟨⟨a1, a2⟩, a3, a4, a5, a6, a7, a8, a9⟩ := hR
  refine ⟨⟨by rw [rd_wr, if_neg (by omega)]; exact a1, fun c' k' q1 q2 => by rw [rd_wr, if_neg (by omega)]; exact a2 c' k' q1 q2⟩, by rw [rd_wr, if_neg (by omega)]; exact a3, fun k' q1 q2 => by rw [rd_wr, if_neg (by omega)]; exact a4 k' q1 q2, by rw [rd_wr, if_pos ⟨rfl, rfl⟩]; rfl, by rw [rd_wr, if_neg (by omega)]; exact a6, fun p' hp => ?_, by rw [rd_wr, if_neg (by omega)]; exact a8, fun e he => ?_⟩
  · rw [rd_wr, if_neg (by omega), rd_wr, if_neg (by omega), rd_wr, if_neg (by omega)]
    exact a7 p' hp
  · rw [rd_wr, if_neg (by omega), rd_wr, if_neg (by omega), rd_wr, if_neg (by omega), rd_wr, if_neg (by omega), rd_wr, if_neg (by omega)]
    exact a9 e he
def tellA (A : Ab) (p : Nat) (t v : Int32) : Ab := stN (stE A p (insK (posK t (-1) (ev A p)) (t, -1, nI (nA A), v) (ev A p))) (nP A) (nC A) (nH A + 1) (nA A + 1)
def tellS (S : AR) (p : Nat) (t v : Int32) : AR := (tellA S.1 p t v, S.2)
theorem tellA_len {A : Ab} (h : WX A) {p : Nat} {t v : Int32} : (ev (tellA A p t v) p).length = (ev A p).length + 1 := by
  show (if p = p then insK (posK t (-1) (ev A p)) (t, -1, nI (nA A), v) (ev A p) else ev A p).length = _
  rw [if_pos rfl, insK_len (posK_ok (h.2.2.1 p)).1]
theorem WX_tell {A : Ab} (h : WX A) {p : Nat} (hp : p < nP A) {t v : Int32} (hok : evOK (t, -1, nI (nA A), v)) (hb : nA A < 2147483647) (hH : nH A < 30) : WX (tellA A p t v) := by
  obtain ⟨hs, hc, hso, ho, hz, htot, hev, hck⟩ := h
  have hins : ∀ q, ∀ y ∈ ev (tellA A p t v) q, y ∈ ev A q ∨ y = (t, -1, nI (nA A), v) := by
    intro q y hy
    have hy : y ∈ (if q = p then insK (posK t (-1) (ev A p)) (t, -1, nI (nA A), v) (ev A p) else ev A q) := hy
    by_cases e : q = p
    · rw [if_pos e] at hy
      have := insK_perm.mem_iff.mp hy
      rcases List.mem_cons.mp this with z | z
      · exact Or.inr z
      · rw [e]; exact Or.inl z
    · rw [if_neg e] at hy
      exact Or.inl hy
  have hpk := (posK_ok (t := t) (b := -1) (hso p)).1
  have htE : totE (tellA A p t v) = totE A + 1 := by
    have := tot_stE (A := A) (p := p) (L := insK (posK t (-1) (ev A p)) (t, -1, nI (nA A), v) (ev A p)) hp
    rw [insK_len hpk] at this
    have h2 : totE (tellA A p t v) = totE (stE A p (insK (posK t (-1) (ev A p)) (t, -1, nI (nA A), v) (ev A p))) := rfl
    omega
  have hz2 : ∀ q, nP A ≤ q → ev (tellA A p t v) q = [] := by
    intro q hq
    show (if q = p then _ else ev A q) = []
    rw [if_neg (by omega)]
    exact hz q hq
  refine ⟨⟨hs.1, hs.2.1, by show nH A + 1 ≤ 30; omega, fun q => ?_⟩, hc, fun q => ?_, fun q y hy => ?_, hz2, by show totE (tellA A p t v) ≤ nH A + 1; omega, fun q y hy => ?_, hck⟩
  · have := len_le_tot (A := tellA A p t v) hz2 q
    omega
  · show srt (if q = p then insK (posK t (-1) (ev A p)) (t, -1, nI (nA A), v) (ev A p) else ev A q)
    by_cases e : q = p
    · rw [if_pos e]
      exact srt_ins (hso _) (fun y hy => by rw [nI_toInt (by omega)]; exact ho _ y hy)
    · rw [if_neg e]; exact hso q
  · show y.2.2.1.toInt < ((nA A + 1 : Nat) : Int)
    rcases hins q y hy with z | z
    · have := ho q y z
      omega
    · rw [z]
      show (nI (nA A)).toInt < ((nA A + 1 : Nat) : Int)
      rw [nI_toInt (by omega)]
      omega
  · rcases hins q y hy with z | z
    · exact hev q y z
    · rw [z]; exact hok
theorem BgOK_tell {B : Bg} {A : Ab} {p : Nat} {t v : Int32} (h : BgOK B A) : BgOK (B ++ [(p, (t, -1, nI (nA A), v))]) (tellA A p t v) := by
  intro q
  show List.Perm (ofP (B ++ [(p, (t, -1, nI (nA A), v))]) q) (if q = p then insK (posK t (-1) (ev A p)) (t, -1, nI (nA A), v) (ev A p) else ev A q)
  by_cases e : q = p
  · rw [if_pos e, ← e]
    have h1 : ofP (B ++ [(q, (t, -1, nI (nA A), v))]) q = ofP B q ++ [(t, -1, nI (nA A), v)] := by simp [ofP]
    rw [h1]
    exact (List.perm_append_singleton _ _).trans ((List.Perm.cons _ (h q)).trans insK_perm.symm)
  · rw [if_neg e]
    have h1 : ofP (B ++ [(p, (t, -1, nI (nA A), v))]) q = ofP B q := by
      have : (p == q) = false := by simpa using fun z => e z.symm
      simp [ofP, this]
    rw [h1]
    exact h q
-- what event() refuses
def wkd (A : Ab) (p : Nat) (t : Int32) : Bool := decide (¬ pt A 0 p ≤ 0 ∧ t ≤ pt A 2 p)
def refE (A : Ab) (p : Nat) (t v : Int32) : Int32 := if ¬ (0 ≤ t ∧ t ≤ 9999) then -1000000002 else if ¬ (0 ≤ v ∧ v ≤ 99) then -1000000002 else if wkd A p t = true then -1000000003 else if pAny (isProm A (nI p) t) (nC A) = true then -1000000003 else if nH A < 30 then 0 else -1000000004
theorem refE_0 {A : Ab} {p : Nat} {t v : Int32} (h : refE A p t v = 0) : (0 ≤ t ∧ t ≤ 9999) ∧ (0 ≤ v ∧ v ≤ 99) ∧ wkd A p t = false ∧ pAny (isProm A (nI p) t) (nC A) = false ∧ nH A < 30 := by
  unfold refE at h
  by_cases h1 : 0 ≤ t ∧ t ≤ 9999
  · rw [if_neg (fun q => q h1)] at h
    by_cases h2 : 0 ≤ v ∧ v ≤ 99
    · rw [if_neg (fun q => q h2)] at h
      by_cases h3 : wkd A p t = true
      · rw [if_pos h3] at h; exact absurd h (by decide)
      · rw [if_neg h3] at h
        by_cases h4 : pAny (isProm A (nI p) t) (nC A) = true
        · rw [if_pos h4] at h; exact absurd h (by decide)
        · rw [if_neg h4] at h
          by_cases h5 : nH A < 30
          · exact ⟨h1, h2, by simpa using h3, by simpa using h4, h5⟩
          · rw [if_neg h5] at h; exact absurd h (by decide)
    · rw [if_pos h2] at h; exact absurd h (by decide)
  · rw [if_pos h1] at h; exact absurd h (by decide)
theorem refE_neg {A : Ab} {p : Nat} {t v : Int32} (h : ¬ refE A p t v = 0) : refE A p t v ≤ 0 := by
  unfold refE at h ⊢
  by_cases h1 : 0 ≤ t ∧ t ≤ 9999
  · rw [if_neg (fun q => q h1)] at h ⊢
    by_cases h2 : 0 ≤ v ∧ v ≤ 99
    · rw [if_neg (fun q => q h2)] at h ⊢
      by_cases h3 : wkd A p t = true
      · rw [if_pos h3]; decide
      · rw [if_neg h3] at h ⊢
        by_cases h4 : pAny (isProm A (nI p) t) (nC A) = true
        · rw [if_pos h4]; decide
        · rw [if_neg h4] at h ⊢
          by_cases h5 : nH A < 30
          · rw [if_pos h5]; decide
          · rw [if_neg h5]; decide
    · rw [if_pos h2]; decide
  · rw [if_pos h1]; decide
theorem x3_worked {M : Mem} {A : Ab} (h : RC M (0 + 1) A) {p : Nat} (hp : p < 6) (t : Int32) : f_X3_hasWorkedAtOrBehind M (0 + 1) (nI p) t = some (bI (wkd A p t)) := by
  have c0 : rd M (0 + 1 + 10) p = pt A 0 p := h.2.2.2.2.1 0 p (by omega) hp
  have c2 : rd M (0 + 1 + 12) p = pt A 2 p := h.2.2.2.2.1 2 p (by omega) hp
  unfold f_X3_hasWorkedAtOrBehind wkd
  rw [ck_nI (by omega) (by omega), ck_nI (by omega) (by omega), cl_nI (by omega), c0, c2]
  by_cases h1 : pt A 0 p ≤ 0
  · rw [if_pos h1, decide_eq_false (fun q => q.1 h1)]; rfl
  · rw [if_neg h1]
    by_cases h2 : pt A 2 p < t
    · rw [if_pos h2, decide_eq_false (fun q => by
        have q2 := q.2
        rw [Int32.le_iff_toInt_le] at q2
        rw [Int32.lt_iff_toInt_lt] at h2
        omega)]
      rfl
    · have h3 : ¬ pt A 0 p ≤ 0 ∧ t ≤ pt A 2 p := ⟨h1, by
        rw [Int32.le_iff_toInt_le]
        rw [Int32.lt_iff_toInt_lt] at h2
        omega⟩
      rw [if_neg h2, decide_eq_true h3]
      rfl
theorem x4_ref {M : Mem} {S : AR} (c : CS M S) (hw : WR S) {p : Nat} (hp : p < nP S.1) (t v : Int32) : f_X4_refusalOfEvent M 0 (nI p) t v = some (refE S.1 p t v) := by
  have hP := hw.1.1.1
  have hC := hw.1.1.2.1
  have hH := hw.1.1.2.2.1
  have a1 : f_X4_isNoPart M 0 (nI p) = some 0 := by
    unfold f_X4_isNoPart
    rw [if_neg (nI_pos (by omega)), c.1.2.1, if_pos (nI_lt hp (by omega))]
    rfl
  have z11 : rd M (0 + 1) 11 = nI (nH S.1) := c.1.2.2.2.1
  unfold f_X4_refusalOfEvent refE
  rw [a1, bd_s, if_pos (show (0 : Int32) = 0 from rfl), x4_out, bd_s]
  by_cases h1 : 0 ≤ t ∧ t ≤ 9999
  · have h1' : ¬ ¬ (0 ≤ t ∧ t ≤ 9999) := fun q => q h1
    rw [decide_eq_false h1', if_pos (show bI false = 0 from rfl), if_neg h1', x4_out, bd_s]
    by_cases h2 : 0 ≤ v ∧ v ≤ 99
    · have h2' : ¬ ¬ (0 ≤ v ∧ v ≤ 99) := fun q => q h2
      rw [decide_eq_false h2', if_pos (show bI false = 0 from rfl), if_neg h2', x3_worked c.1 (by omega), bd_s]
      cases h3 : wkd S.1 p t with
      | true =>
        rw [if_neg (show ¬ bI true = 0 from by decide), if_pos rfl]
        rfl
      | false =>
        rw [if_pos (show bI false = 0 from rfl), if_neg (show ¬ false = true from by decide), x0_promiseMoreThan c.1.1 hC, pAny_isSome, bd_s]
        cases h4 : pAny (isProm S.1 (nI p) t) (nC S.1) with
        | true =>
          rw [if_neg (show ¬ bI true = 0 from by decide), if_pos rfl]
          rfl
        | false =>
          rw [if_pos (show bI false = 0 from rfl), if_neg (show ¬ false = true from by decide), z11]
          by_cases h5 : nH S.1 < 30
          · rw [if_pos (show nI (nH S.1) < 30 from nI_lt (b := 30) h5 (by omega)), if_pos h5]
            rfl
          · rw [if_neg (show ¬ nI (nH S.1) < 30 from nI_nlt (b := 30) (by omega) (by omega)), if_neg h5]
            rfl
    · rw [decide_eq_true h2, if_neg (show ¬ bI true = 0 from by decide), if_pos h2]
      rfl
  · rw [decide_eq_true h1, if_neg (show ¬ bI true = 0 from by decide), if_pos h1]
    rfl
theorem tell_ok {A : Ab} (hw : WX A) {p : Nat} (hp : p < nP A) {t v : Int32} (hb : nA A < 2147483647) (h : refE A p t v = 0) : WX (tellA A p t v) := by
  obtain ⟨h1, h2, h3, h4, h5⟩ := refE_0 h
  obtain ⟨h1a, h1b⟩ := h1
  obtain ⟨h2a, h2b⟩ := h2
  rw [Int32.le_iff_toInt_le] at h1a h1b h2a h2b
  have e0 : (0 : Int32).toInt = 0 := by decide
  have e1 : (9999 : Int32).toInt = 9999 := by decide
  have e2 : (99 : Int32).toInt = 99 := by decide
  refine WX_tell hw hp ⟨?_, ?_, ?_, ?_⟩ hb h5
  · show 0 ≤ t.toInt
    omega
  · show 0 ≤ v.toInt
    omega
  · show v.toInt ≤ 99
    omega
  · show t.toInt + 99 * v.toInt ≤ 19800
    omega
theorem x4_tell {M : Mem} {S : AR} (c : CS M S) (hw : WR S) {p : Nat} (hp : p < nP S.1) {t v : Int32} (h : refE S.1 p t v = 0) : ∃ M1, f_X3_tellByHand M (0 + 1) (nI p) t v = some (nI ((ev S.1 p).length + 1), M1) ∧ CS M1 (tellS S p t v) ∧ frC M M1 := by
  have hP := hw.1.1.1
  obtain ⟨-, -, -, -, hH⟩ := refE_0 h
  have htot := hw.1.2.2.2.2.2.1
  have hlen := len_le_tot hw.1.2.2.2.2.1 p
  obtain ⟨k1, k2, k3⟩ := posK_ok (t := t) (b := -1) (hw.1.2.2.1 p)
  obtain ⟨M2, m1, m2, m3⟩ := x2_add (c.1.2.2.2.2.2 p (by omega)) (by omega) (t := t) (b := -1) (o := nI (nA S.1)) (v := v) k1 k2 k3
  have g2 := RC_E c.1 (show p < 6 by omega) m3 m2
  have f2 : frm M M2 1 38 := frm_wd m3 (by omega) (by omega)
  have z11 : rd M2 (0 + 1) 11 = nI (nH S.1) := g2.2.2.2.1
  obtain ⟨M5, e5⟩ : ∃ M5, M5 = wr M2 (0 + 1) 11 (nI (nH S.1 + 1)) := ⟨_, rfl⟩
  have g5 : RC M5 (0 + 1) (tellA S.1 p t v) := by rw [e5]; exact RC_H g2
  have f5 : frm M2 M5 1 38 := frm_w e5 (by omega) (by omega)
  have f6 := frm_tr f2 f5
  have z3 : rd M5 (0 + 1 + 9 + 4 + 4 * p) 3 = nI ((ev S.1 p).length + 1) := by
    rw [← tellA_len hw.1 (p := p) (t := t) (v := v)]
    exact (g5.2.2.2.2.2 p (by omega)).1
  refine ⟨M5, ?_, ⟨g5, LC_congr c.2 (fun i j q1 q2 => f6.1 i j (by omega))⟩, frC_w f6⟩
  unfold f_X3_tellByHand
  rw [ck_nI (by omega) (by omega), cl_nI (by omega), m1, bd_s, z11, nI_1, nm_to e5, ck_nI (by omega) (by omega), z3]
theorem isPart5_t {M : Mem} {S : AR} {B : Bg} (m : MS M S B) (hw : WR S) {p : Nat} (hp : p < nP S.1) : f_X5_isPart M 157 (nI p) = some 1 := by
  have hP := hw.1.1.1
  have z0 : rd M (157 + 1) (0 : Int32).toNatClampNeg = nI (nP S.1) := m.1.2.1
  have h1 : (0 : Int32) ≤ nI p := nI_pos' (by omega)
  have h2 : nI p ≤ nI (nP S.1) - 1 := by
    rw [Int32.le_iff_toInt_le, show nI (nP S.1) - 1 = nI (nP S.1) - nI 1 from rfl, pk_sub_toInt (by omega) (by omega), nI_toInt (by omega)]
    omega
  unfold f_X5_isPart
  rw [z0, x5_inL (nI p) 0 (nI (nP S.1) - 1) (by decide) rfl, decide_eq_true ⟨h1, h2⟩]
  exact ck_nI (k := 0) (by omega) (by omega)
theorem x5_evR {M : Mem} {S : AR} {B : Bg} (m : MS M S B) (hw : WR S) {p : Nat} (hp : p < nP S.1) {t v : Int32} (h : ¬ refE S.1 p t v = 0) : f_X5_event M 157 (nI p) t v = some (refE S.1 p t v, M) := by
  have hP := hw.1.1.1
  have hC := hw.1.1.2.1
  have hH := hw.1.1.2.2.1
  have a2 := isPart5_t m hw hp
  have i10 : (10 : Int32) + nI p = nI (10 + p) := nI_add 10 p
  have i22 : (22 : Int32) + nI p = nI (22 + p) := nI_add 22 p
  obtain ⟨m0, -, m2⟩ := m.1.2.2.2.2.2.1 p (by omega)
  rw [Nat.zero_add] at m0 m2
  have m0 : rd M (157 + 1) (10 + p) = pt S.1 0 p := m0
  have m2 : rd M (157 + 1) (22 + p) = pt S.1 2 p := m2
  have z7 : rd M (157 + 1) (7 : Int32).toNatClampNeg = nI (nH S.1) := m.1.2.2.2.1
  have hc7 : ∀ X : Option (Int32 × Mem), ck (7 : Int32) 1048 X = X := fun X => ck_nI (k := 7) (by omega) (by omega)
  have h63 : wkd S.1 p t = false → (0 ≤ t ∧ t ≤ 9999) → (0 ≤ v ∧ v ≤ 99) → f_X5_event_L63 M 157 (nI p) t v = some (refE S.1 p t v, M) := fun q1 q2 q3 => by
    unfold refE at h ⊢
    have q2' : ¬ ¬ (0 ≤ t ∧ t ≤ 9999) := fun z => z q2
    have q3' : ¬ ¬ (0 ≤ v ∧ v ≤ 99) := fun z => z q3
    rw [if_neg q2', if_neg q3', q1, if_neg (by decide)] at h ⊢
    unfold f_X5_event_L63
    rw [x5_isPromised m.1.1 hC, bd_s]
    cases h4 : pAny (isProm S.1 (nI p) t) (nC S.1) with
    | true =>
      rw [if_neg (show ¬ bI true = 0 from by decide), if_pos rfl]
      rfl
    | false =>
      rw [h4, if_neg (by decide)] at h
      rw [if_pos (show bI false = 0 from rfl), if_neg (show ¬ false = true from by decide), hc7, z7]
      by_cases h5 : nH S.1 < 30
      · rw [if_pos h5] at h; exact absurd rfl h
      · have h6 : nI (nH S.1) = 30 := by
          rw [show nH S.1 = 30 by omega]
          rfl
        rw [if_neg h5, if_pos h6]
  unfold f_X5_event
  rw [a2, bd_s, if_neg (show ¬ (1 : Int32) = 0 from by decide), x5_inL t 0 9999 (by decide) (by decide), bd_s]
  by_cases h1 : 0 ≤ t ∧ t ≤ 9999
  · rw [decide_eq_true h1, if_neg (show ¬ bI true = 0 from by decide), x5_inL v 0 99 (by decide) (by decide), bd_s]
    by_cases h2 : 0 ≤ v ∧ v ≤ 99
    · rw [decide_eq_true h2, if_neg (show ¬ bI true = 0 from by decide), i10, i22, ck_nI (by omega) (by omega), cl_nI (by omega), m0]
      by_cases h3 : pt S.1 0 p ≤ 0
      · rw [if_pos h3]
        exact h63 (decide_eq_false (fun q => q.1 h3)) h1 h2
      · rw [if_neg h3, ck_nI (by omega) (by omega), cl_nI (by omega), m2]
        by_cases h4 : t ≤ pt S.1 2 p
        · rw [if_pos h4]
          have h5 : wkd S.1 p t = true := decide_eq_true ⟨h3, h4⟩
          unfold refE
          rw [if_neg (fun z => z h1), if_neg (fun z => z h2), if_pos h5]
          rfl
        · rw [if_neg h4]
          exact h63 (decide_eq_false (fun q => h4 q.2)) h1 h2
    · rw [decide_eq_false h2, if_pos (show bI false = 0 from rfl)]
      unfold refE
      rw [if_neg (fun z => z h1), if_pos h2]
      rfl
  · rw [decide_eq_false h1, if_pos (show bI false = 0 from rfl)]
    unfold refE
    rw [if_pos h1]
    rfl
theorem x5_evA {M : Mem} {S : AR} {B : Bg} (m : MS M S B) (hw : WR S) (hb : nA S.1 < 2147483647) {p : Nat} (hp : p < nP S.1) {t v : Int32} (h : refE S.1 p t v = 0) : ∃ M1 B1, f_X5_event M 157 (nI p) t v = some (nI ((ev S.1 p).length + 1), M1) ∧ MS M1 (tellS S p t v) B1 ∧ frD M M1 := by
  have hP := hw.1.1.1
  have hC := hw.1.1.2.1
  obtain ⟨h1, h2, h3, h4, h5⟩ := refE_0 h
  have htot := hw.1.2.2.2.2.2.1
  have hlB := WE_len m.2.2
  have a2 := isPart5_t m hw hp
  have i10 : (10 : Int32) + nI p = nI (10 + p) := nI_add 10 p
  have i22 : (22 : Int32) + nI p = nI (22 + p) := nI_add 22 p
  obtain ⟨m0, -, m2⟩ := m.1.2.2.2.2.2.1 p (by omega)
  rw [Nat.zero_add] at m0 m2
  have m0 : rd M (157 + 1) (10 + p) = pt S.1 0 p := m0
  have m2 : rd M (157 + 1) (22 + p) = pt S.1 2 p := m2
  have hc7 : ∀ X : Option (Int32 × Mem), ck (7 : Int32) 1048 X = X := fun X => ck_nI (k := 7) (by omega) (by omega)
  have z7 : rd M (157 + 1) (7 : Int32).toNatClampNeg = nI (nH S.1) := m.1.2.2.2.1
  obtain ⟨M6, b1, b2, b3⟩ := x5_comes m.1 hC (by omega) (by omega) p t (-1) v
  have b1 : f_X5_comes M 157 0 (nI p) t (-1) v = some M6 := b1
  have y7 : rd M6 (157 + 1) (7 : Int32).toNatClampNeg = nI (nH S.1) := b2.2.2.2.1
  obtain ⟨M11, e11⟩ : ∃ M11, M11 = wr M6 (157 + 1) (7 : Int32).toNatClampNeg (nI (nH S.1 + 1)) := ⟨_, rfl⟩
  have g11 : RM M11 0 (tellA S.1 p t v) (B ++ [(p, (t, -1, nI (nA S.1), v))]) := by
    have q : RM M11 0 (stN (stN S.1 (nP S.1) (nC S.1) (nH S.1) (nA S.1 + 1)) (nP S.1) (nC S.1) (nH S.1 + 1) (nA S.1 + 1)) (B ++ [(p, (t, -1, nI (nA S.1), v))]) := by
      rw [e11, show (7 : Int32).toNatClampNeg = 0 + 7 from rfl]
      exact RM_H b2 hC
    exact RM_ext q rfl rfl rfl rfl (fun _ => rfl) (fun _ _ => rfl) (fun _ _ => rfl)
  have f11 : frmR M M11 0 := frmR_tr b3 (frmR_w e11 (by show 0 ≤ _; omega) (by show 7 < 262; omega))
  have hX := tell_ok hw.1 hp hb h
  have hE : WE (tellA S.1 p t v) (B ++ [(p, (t, -1, nI (nA S.1), v))]) := by
    refine ⟨BgOK_tell m.2.2.1, ?_, fun e he => ?_, hX.2.2.1⟩
    · rw [List.length_append]
      show B.length + 1 ≤ 30
      omega
    · rcases List.mem_append.mp (Bt_mem he) with q | q
      · obtain ⟨e2, q1, q2⟩ := Bt_of_mem q
        rw [← q2]
        exact m.2.2.2.2.1 e2 q1
      · rw [List.mem_singleton.mp q]
        exact hp
  have hwf : f_X5_waitFor M11 157 0 (nI p) = some (nI ((ev S.1 p).length + 1)) := by
    rw [x5_waitFor g11 hX.1 hE (by omega), tellA_len hw.1]
  have h63 : f_X5_event_L63 M 157 (nI p) t v = some (nI ((ev S.1 p).length + 1), M11) := by
    unfold f_X5_event_L63
    have h6 : ¬ nI (nH S.1) = 30 := fun q => by
      have := (nI_eq (a := nH S.1) (b := 30) (by omega) (by omega)).mp q
      omega
    rw [x5_isPromised m.1.1 hC, bd_s, h4, if_pos (show bI false = 0 from rfl), hc7, z7, if_neg h6, b1, bd_s, hc7, hc7, y7, nI_1, nm_to e11, hwf, bd_s]
  refine ⟨M11, _, ?_, ⟨g11, LM_congr m.2.1 (fun i j q => f11.1 i j (by omega)), hE⟩, frD_r f11⟩
  unfold f_X5_event
  rw [a2, bd_s, if_neg (show ¬ (1 : Int32) = 0 from by decide), x5_inL t 0 9999 (by decide) (by decide), bd_s, decide_eq_true h1, if_neg (show ¬ bI true = 0 from by decide), x5_inL v 0 99 (by decide) (by decide), bd_s, decide_eq_true h2, if_neg (show ¬ bI true = 0 from by decide), i10, i22, ck_nI (by omega) (by omega), cl_nI (by omega), m0]
  have h3 := of_decide_eq_false h3
  by_cases q3 : pt S.1 0 p ≤ 0
  · rw [if_pos q3]; exact h63
  · rw [if_neg q3, ck_nI (by omega) (by omega), cl_nI (by omega), m2, if_neg (fun q => h3 ⟨q3, q⟩)]
    exact h63
theorem st_event : ST_event INV := by
  intro k M x1 x2 x3 hk hI
  have hI2 := INV_mono k M hI
  obtain ⟨S, B, c, m, hw, hfm, hb, himg⟩ := hI
  have hP := hw.1.1.1
  unfold f_X4_event
  rcases isPart_c hw x1 with hx | ⟨p, hp, rfl⟩
  · obtain ⟨a1, a2⟩ := isPart_f c m hw hx
    have hr : f_X4_refusalOfEvent M 0 x1 x2 x3 = some (-1000000001) := by
      unfold f_X4_refusalOfEvent
      rw [a1, bd_s, if_neg (show ¬ (1 : Int32) = 0 from by decide)]
    rw [hr, bd_s, if_neg (show ¬ (-1000000001 : Int32) = 0 from by decide)]
    refine ⟨_, M, M, rfl, ?_, hI2⟩
    unfold f_X5_event
    rw [a2, bd_s, if_pos (show (0 : Int32) = 0 from rfl)]
  · rw [x4_ref c hw hp, bd_s]
    by_cases h : refE S.1 p x2 x3 = 0
    · rw [if_pos h]
      obtain ⟨M1, a1, a2, a3⟩ := x4_tell c hw hp h
      have m1 := MS_frC m hw.1 a3
      obtain ⟨M2, B2, b1, b2, b3⟩ := x5_evA m1 hw (by omega) hp h
      refine ⟨_, M1, M2, by rw [a1, bd2_s], b1, INV_fin himg a2 a3 b2 b3 ⟨tell_ok hw.1 hp (by omega) h, hw.2⟩ hfm ?_⟩
      show nA S.1 + 1 ≤ _
      omega
    · rw [if_neg h]
      exact ⟨_, M, M, rfl, x5_evR m hw hp h, hI2⟩
