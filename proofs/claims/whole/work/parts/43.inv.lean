/-! what holds of the abstract state, and stays behind a part's work -/
def evOK (y : Ev) : Prop := 0 ≤ y.1.toInt ∧ 0 ≤ y.2.2.2.toInt ∧ y.2.2.2.toInt ≤ 99 ∧ y.1.toInt + 99 * y.2.2.2.toInt ≤ 19800
def WX (A : Ab) : Prop := WS A ∧ WCh A ∧ (∀ q, srt (ev A q)) ∧ (∀ q, ∀ y ∈ ev A q, y.2.2.1.toInt < (nA A : Int)) ∧ (∀ q, nP A ≤ q → ev A q = []) ∧ totE A ≤ nH A ∧ (∀ q, ∀ y ∈ ev A q, evOK y) ∧ ∀ c, c < nC A → 0 ≤ (ch A c 4).toInt ∧ (ch A c 4).toInt ≤ 99999999
theorem WX.wn {A : Ab} (h : WX A) : WN A := by
  refine ⟨fun c hc => ?_, fun p x hx => ?_⟩
  · rw [Int32.le_iff_toInt_le]
    have := (h.2.2.2.2.2.2.2 c hc).2
    have e : (99999999 : Int32).toInt = 99999999 := by decide
    omega
  · rw [Int32.lt_iff_toInt_lt]
    obtain ⟨h1, h2, h3, h4⟩ := h.2.2.2.2.2.2.1 p x hx
    have e : (99999999 : Int32).toInt = 99999999 := by decide
    omega
theorem pSum_congr {f g : Nat → Nat} : ∀ {n : Nat}, (∀ q, q < n → f q = g q) → pSum f n = pSum g n
  | 0, _ => rfl
  | n + 1, h => by
    show pSum f n + f n = pSum g n + g n
    rw [pSum_congr (fun q hq => h q (by omega)), h n (by omega)]
theorem pSum_up {f g : Nat → Nat} {p : Nat} : ∀ {n : Nat}, p < n → (∀ q, q ≠ p → f q = g q) → pSum f n + g p = pSum g n + f p
  | 0, h, _ => absurd h (by omega)
  | n + 1, h, hq => by
    show pSum f n + f n + g p = pSum g n + g n + f p
    by_cases e : p = n
    · subst e
      have := pSum_congr (f := f) (g := g) (n := p) (fun q hq2 => hq q (by omega))
      omega
    · have := pSum_up (f := f) (g := g) (p := p) (n := n) (by omega) hq
      have h2 := hq n (fun z => e z.symm)
      omega
theorem pSum_ge {f : Nat → Nat} {p : Nat} : ∀ {n : Nat}, p < n → f p ≤ pSum f n
  | 0, h => absurd h (by omega)
  | n + 1, h => by
    show f p ≤ pSum f n + f n
    by_cases e : p = n
    · subst e; omega
    · have := pSum_ge (f := f) (p := p) (n := n) (by omega)
      omega
theorem len_le_tot {A : Ab} (h : ∀ q, nP A ≤ q → ev A q = []) (q : Nat) : (ev A q).length ≤ totE A := by
  by_cases c : q < nP A
  · exact pSum_ge (f := fun p => (ev A p).length) c
  · rw [h q (by omega)]
    exact Nat.zero_le _
theorem tot_stE {A : Ab} {p : Nat} {L : List Ev} (hp : p < nP A) : totE (stE A p L) + (ev A p).length = totE A + L.length := by
  have := pSum_up (f := fun q => (ev (stE A p L) q).length) (g := fun q => (ev A q).length) (p := p) (n := nP A) hp (fun q hq => by rw [ev_stE, if_neg hq])
  have h2 : (ev (stE A p L) p).length = L.length := by rw [ev_stE, if_pos rfl]
  show pSum (fun q => (ev (stE A p L) q).length) (nP A) + (ev A p).length = pSum (fun q => (ev A q).length) (nP A) + L.length
  omega
theorem WX_len {A : Ab} (h : WX A) {p : Nat} {x : Ev} {L : List Ev} (hv : ev A p = x :: L) : p < nP A ∧ ∀ q, q ≠ p → (ev A q).length < 30 := by
  have hp : p < nP A := by
    rcases Nat.lt_or_ge p (nP A) with q | q
    · exact q
    · have := h.2.2.2.2.1 p q
      rw [hv] at this
      cases this
  refine ⟨hp, fun q hq => ?_⟩
  by_cases c : q < nP A
  · have h1 := tot_stE (A := A) (p := p) (L := []) hp
    rw [hv] at h1
    have h2 := pSum_ge (f := fun z => (ev (stE A p []) z).length) (p := q) (n := nP A) c
    have h3 : (ev (stE A p []) q).length = (ev A q).length := by rw [ev_stE, if_neg hq]
    have h4 : totE (stE A p []) = pSum (fun z => (ev (stE A p []) z).length) (nP A) := rfl
    have h5 := h.2.2.2.2.2.1
    have h6 := h.1.2.2.1
    have h7 : (x :: L).length = L.length + 1 := rfl
    have h8 : ([] : List Ev).length = 0 := rfl
    omega
  · rw [h.2.2.2.2.1 q (by omega)]
    show 0 < 30
    omega
/-- behind work1: one event less -/
theorem WX_work1 {A : Ab} (h : WX A) {p : Nat} {x : Ev} {L : List Ev} (hv : ev A p = x :: L) : WX (work1 A p x L) ∧ totE (work1 A p x L) + 1 = totE A := by
  obtain ⟨hp, h29⟩ := WX_len h hv
  have ht := tot_stE (A := A) (p := p) (L := L) hp
  have ht2 : totE (work1 A p x L) = totE (stE A p L) := rfl
  have hx : (ev A p).length = L.length + 1 := by rw [hv]; rfl
  obtain ⟨hs, hc, hso, ho, hz, htot, hev, hck⟩ := h
  have hmem : ∀ q, ∀ y ∈ ev (work1 A p x L) q, y ∈ ev A q := by
    intro q y hy
    have hy : y ∈ (if q = p then L else ev A q) := hy
    by_cases e : q = p
    · rw [if_pos e] at hy
      rw [e, hv]
      exact List.mem_cons_of_mem _ hy
    · rw [if_neg e] at hy
      exact hy
  refine ⟨⟨⟨hs.1, hs.2.1, hs.2.2.1, fun q => ?_⟩, hc, srt_tail hso hv, fun q y hy => ho q y (hmem q y hy), fun q hq => ?_, ?_, fun q y hy => hev q y (hmem q y hy), hck⟩, by omega⟩
  · show (if q = p then L else ev A q).length ≤ 30
    have := hs.2.2.2 q
    by_cases e : q = p
    · rw [if_pos e]
      rw [e] at this
      omega
    · rw [if_neg e]; exact this
  · show (if q = p then L else ev A q) = []
    have hq : nP A ≤ q := hq
    rw [if_neg (by omega)]
    exact hz q hq
  · show totE (work1 A p x L) ≤ nH A
    omega
theorem toInt_dec {v : Int32} (h : 0 < v.toInt) : (v - 1).toInt = v.toInt - 1 := by
  have h1 : ¬ v ≤ 0 := by
    rw [Int32.le_iff_toInt_le]
    have e : (0 : Int32).toInt = 0 := by decide
    omega
  obtain ⟨v1, v2, v3⟩ := pos_nI h1
  obtain ⟨q, hq⟩ : ∃ q, v.toNatClampNeg = q + 1 := ⟨v.toNatClampNeg - 1, by omega⟩
  rw [v1, hq, show nI (q + 1) - 1 = nI q from nI_pred q, nI_toInt (by omega), nI_toInt (by omega)]
  omega
theorem toInt_addN {t : Int32} {d : Nat} (h0 : 0 ≤ t.toInt) (h1 : t.toInt ≤ 1000000) (hd : d ≤ 1000) : (t + nI d).toInt = t.toInt + d := by
  have h2 : ¬ t < 0 := by
    rw [Int32.lt_iff_toInt_lt]
    have e : (0 : Int32).toInt = 0 := by decide
    omega
  obtain ⟨j, hj, e⟩ := nI_of h2
  subst e
  have hj : j < 2147483648 := hj
  rw [nI_toInt hj] at h1
  rw [nI_add, nI_toInt (by omega), nI_toInt hj]
  omega
theorem WX_come {A : Ab} (h : WX A) {c : Nat} (hcl : c < nC A) {t v : Int32} (hok : evOK (t, nI c, nI (nA A), v)) (hb : nA A < 2147483647) (ht29 : totE A < nH A) : WX (comeA A c t v) := by
  obtain ⟨hs, hc, hso, ho, hz, htot, hev, hck⟩ := h
  obtain ⟨q1, q2⟩ := hc.to hcl hs
  have hins : ∀ q, ∀ y ∈ ev (comeA A c t v) q, y ∈ ev A q ∨ y = (t, nI c, nI (nA A), v) := by
    intro q y hy
    have hy : y ∈ (if q = toN A c then insK (posK t (nI c) (ev A (toN A c))) (t, nI c, nI (nA A), v) (ev A (toN A c)) else ev A q) := hy
    by_cases e : q = toN A c
    · rw [if_pos e] at hy
      have := insK_perm.mem_iff.mp hy
      rcases List.mem_cons.mp this with z | z
      · exact Or.inr z
      · rw [e]; exact Or.inl z
    · rw [if_neg e] at hy
      exact Or.inl hy
  have hpk := (posK_ok (t := t) (b := nI c) (hso (toN A c))).1
  have htE : totE (comeA A c t v) = totE A + 1 := by
    have := tot_stE (A := A) (p := toN A c) (L := insK (posK t (nI c) (ev A (toN A c))) (t, nI c, nI (nA A), v) (ev A (toN A c))) q2
    rw [insK_len hpk] at this
    have h2 : totE (comeA A c t v) = totE (stE A (toN A c) (insK (posK t (nI c) (ev A (toN A c))) (t, nI c, nI (nA A), v) (ev A (toN A c)))) := rfl
    omega
  have hz2 : ∀ q, nP A ≤ q → ev (comeA A c t v) q = [] := by
    intro q hq
    show (if q = toN A c then _ else ev A q) = []
    rw [if_neg (by omega)]
    exact hz q hq
  have htH : totE (comeA A c t v) ≤ nH A := by omega
  refine ⟨⟨hs.1, hs.2.1, hs.2.2.1, fun q => ?_⟩, ?_, fun q => ?_, fun q y hy => ?_, hz2, htH, fun q y hy => ?_, fun c' hc' => ?_⟩
  · have := len_le_tot (A := comeA A c t v) hz2 q
    have := hs.2.2.1
    omega
  · intro c' hc'
    obtain ⟨f, t', pr, de, k0, k1, k2, k3, k4⟩ := hc c' hc'
    refine ⟨f, t', pr, de, ?_, ?_, ?_, ?_, k4⟩
    · show ch (stC (stC _ c 5 _) c 4 _) c' 0 = _
      rw [ch_stC, if_neg (by omega), ch_stC, if_neg (by omega)]; exact k0
    · show ch (stC (stC _ c 5 _) c 4 _) c' 1 = _
      rw [ch_stC, if_neg (by omega), ch_stC, if_neg (by omega)]; exact k1
    · show ch (stC (stC _ c 5 _) c 4 _) c' 2 = _
      rw [ch_stC, if_neg (by omega), ch_stC, if_neg (by omega)]; exact k2
    · show ch (stC (stC _ c 5 _) c 4 _) c' 3 = _
      rw [ch_stC, if_neg (by omega), ch_stC, if_neg (by omega)]; exact k3
  · show srt (if q = toN A c then insK (posK t (nI c) (ev A (toN A c))) (t, nI c, nI (nA A), v) (ev A (toN A c)) else ev A q)
    by_cases e : q = toN A c
    · rw [if_pos e]
      exact srt_ins (hso _) (fun y hy => by rw [nI_toInt (by omega)]; exact ho _ y hy)
    · rw [if_neg e]; exact hso q
  · show y.2.2.1.toInt < ((nA A + 1 : Nat) : Int)
    rcases hins q y hy with z | z
    · have := ho q y z
      omega
    · rw [z]
      show (nI (nA A)).toInt < ((nA A + 1 : Nat) : Int)
      rw [nI_toInt (by omega)]
      omega
  · rcases hins q y hy with z | z
    · exact hev q y z
    · rw [z]; exact hok
  · show 0 ≤ (ch (stC (stC _ c 5 _) c 4 (jmax (ch A c 4) t)) c' 4).toInt ∧ (ch (stC (stC _ c 5 _) c 4 (jmax (ch A c 4) t)) c' 4).toInt ≤ 99999999
    rw [ch_stC]
    by_cases e : c' = c ∧ 4 = 4
    · rw [if_pos e]
      have h1 := hck c hcl
      obtain ⟨g1, g2, g3, g4⟩ := hok
      have g1 : 0 ≤ t.toInt := g1
      have g2 : 0 ≤ v.toInt := g2
      have g4 : t.toInt + 99 * v.toInt ≤ 19800 := g4
      unfold jmax
      by_cases c9 : ch A c 4 < t
      · rw [if_pos c9]; omega
      · rw [if_neg c9]; exact h1
    · rw [if_neg e, ch_stC, if_neg (by omega)]
      exact hck c' hc'
theorem WX_send {A : Ab} (h : WX A) {p : Nat} {t v : Int32} {b o : Int32} (hok : evOK (t, b, o, v)) (hb : nA A < 2147483647) (ht29 : totE A < nH A) : WX (sendA A p t v) ∧ totE (sendA A p t v) ≤ nH A ∧ nA (sendA A p t v) ≤ nA A + 1 ∧ nP (sendA A p t v) = nP A ∧ nC (sendA A p t v) = nC A ∧ nH (sendA A p t v) = nH A := by
  unfold sendA
  by_cases h1 : v ≤ 0
  · rw [if_pos h1]
    exact ⟨h, by omega, by omega, rfl, rfl, rfl⟩
  · rw [if_neg h1]
    by_cases h2 : outN A p = 0
    · rw [if_pos h2]
      exact ⟨h, by omega, by omega, rfl, rfl, rfl⟩
    · rw [if_neg h2]
      cases hf : fstIx (isPlace A (nI p) (v.toNatClampNeg % outN A p)) (nC A) with
      | none => exact ⟨h, by show totE A ≤ nH A; omega, by show nA A ≤ nA A + 1; omega, rfl, rfl, rfl⟩
      | some c =>
        obtain ⟨hcl, -⟩ := fstIx_lt hf
        obtain ⟨f, t', pr, de, k0, k1, k2, k3, k4, k5, k6, k7, k8, k9⟩ := h.2.1 c hcl
        obtain ⟨g1, g2, g3, g4⟩ := hok
        have g1 : 0 ≤ t.toInt := g1
        have g2 : 0 ≤ v.toInt := g2
        have g3 : v.toInt ≤ 99 := g3
        have g4 : t.toInt + 99 * v.toInt ≤ 19800 := g4
        have hv : 0 < v.toInt := by
          rw [Int32.le_iff_toInt_le] at h1
          have e : (0 : Int32).toInt = 0 := by decide
          omega
        have hw := WX_come h hcl (t := t + ch A c 3) (v := v - 1) (by
          rw [k3]
          refine ⟨?_, ?_, ?_, ?_⟩
          · show 0 ≤ (t + nI de).toInt
            rw [toInt_addN g1 (by omega) (by omega)]; omega
          · show 0 ≤ (v - 1).toInt
            rw [toInt_dec hv]; omega
          · show (v - 1).toInt ≤ 99
            rw [toInt_dec hv]; omega
          · show (t + nI de).toInt + 99 * (v - 1).toInt ≤ 19800
            rw [toInt_addN g1 (by omega) (by omega), toInt_dec hv]; omega) hb ht29
        exact ⟨hw, hw.2.2.2.2.2.1, Nat.le_refl _, rfl, rfl, rfl⟩
theorem WX_work {A : Ab} (h : WX A) (hb : nA A < 2147483647) (p : Nat) : WX (workA A p) ∧ nA (workA A p) ≤ nA A + 1 ∧ nP (workA A p) = nP A ∧ nC (workA A p) = nC A ∧ nH (workA A p) = nH A := by
  unfold workA
  cases hv : ev A p with
  | nil => exact ⟨h, by show nA A ≤ nA A + 1; omega, rfl, rfl, rfl⟩
  | cons x L =>
    obtain ⟨h1, h2⟩ := WX_work1 h hv
    have hx := h.2.2.2.2.2.2.1 p x (by rw [hv]; exact List.mem_cons_self)
    have hH := h.2.2.2.2.2.1
    have hs := WX_send (p := p) (b := x.2.1) (o := x.2.2.1) h1 hx hb (by show totE (work1 A p x L) < nH A; omega)
    exact ⟨hs.1, hs.2.2.1, hs.2.2.2.1, hs.2.2.2.2.1, hs.2.2.2.2.2⟩
