/-! ways round: walks, the shortest, what is found round by round -/
def prN (A : Ab) (c : Nat) : Nat := (ch A c 2).toNatClampNeg
theorem WCh_pr {A : Ab} (h : WCh A) {c : Nat} (hc : c < nC A) : ch A c 2 = nI (prN A c) ∧ prN A c ≤ 99 := by
  obtain ⟨f, t, pr, de, h0, h1, h2, h3, h4, h5, h6, h7, h8⟩ := h c hc
  unfold prN
  rw [h2, cl_nI (by omega)]
  exact ⟨rfl, h7⟩
/-- a way of k channels from p to q, its promises together w -/
def pth (A : Ab) (p : Nat) : Nat → Nat → Nat → Prop
  | 0, q, w => q = p ∧ w = 0
  | k + 1, q, w => ∃ c w', c < nC A ∧ toN A c = q ∧ pth A p k (frN A c) w' ∧ w = w' + prN A c
def isW (A : Ab) (v e : Nat → Nat) (k : Nat) : Prop := ∀ i, i < k → e i < nC A ∧ frN A (e i) = v i ∧ toN A (e i) = v (i + 1)
theorem pth_fun {A : Ab} {p : Nat} : ∀ k q w, pth A p k q w → ∃ v e : Nat → Nat, isW A v e k ∧ v 0 = p ∧ v k = q ∧ pSum (fun i => prN A (e i)) k = w
  | 0, q, w, h => ⟨fun _ => p, fun _ => 0, fun i hi => absurd hi (Nat.not_lt_zero i), rfl, h.1.symm, h.2.symm⟩
  | k + 1, q, w, h => by
    obtain ⟨c, w', h1, h2, h3, h4⟩ := h
    obtain ⟨v, e, g1, g2, g3, g4⟩ := pth_fun k (frN A c) w' h3
    refine ⟨fun i => if i ≤ k then v i else q, fun i => if i < k then e i else c, fun i hi => ?_, ?_, ?_, ?_⟩
    · by_cases c1 : i < k
      · obtain ⟨a1, a2, a3⟩ := g1 i c1
        have e1 : (if i < k then e i else c) = e i := if_pos c1
        have e2 : (if i ≤ k then v i else q) = v i := if_pos (by omega)
        have e3 : (if i + 1 ≤ k then v (i + 1) else q) = v (i + 1) := if_pos (by omega)
        show (if i < k then e i else c) < nC A ∧ frN A (if i < k then e i else c) = (if i ≤ k then v i else q) ∧ toN A (if i < k then e i else c) = (if i + 1 ≤ k then v (i + 1) else q)
        rw [e1, e2, e3]
        exact ⟨a1, a2, a3⟩
      · have ei : i = k := by omega
        have e1 : (if i < k then e i else c) = c := if_neg c1
        have e2 : (if i ≤ k then v i else q) = v i := if_pos (by omega)
        have e3 : (if i + 1 ≤ k then v (i + 1) else q) = q := if_neg (by omega)
        show (if i < k then e i else c) < nC A ∧ frN A (if i < k then e i else c) = (if i ≤ k then v i else q) ∧ toN A (if i < k then e i else c) = (if i + 1 ≤ k then v (i + 1) else q)
        rw [e1, e2, e3, ei, g3]
        exact ⟨h1, rfl, h2⟩
    · show (if 0 ≤ k then v 0 else q) = p
      rw [if_pos (by omega)]; exact g2
    · show (if k + 1 ≤ k then v (k + 1) else q) = q
      rw [if_neg (by omega)]
    · show pSum (fun i => prN A (if i < k then e i else c)) k + prN A (if k < k then e k else c) = w
      rw [if_neg (by omega), h4, ← g4]
      congr 1
      exact pSum_congr (fun i hi => by rw [if_pos hi])
theorem fun_pth {A : Ab} {p : Nat} {v e : Nat → Nat} (h0 : v 0 = p) : ∀ k, isW A v e k → pth A p k (v k) (pSum (fun i => prN A (e i)) k)
  | 0, _ => ⟨h0, rfl⟩
  | k + 1, h => by
    obtain ⟨a1, a2, a3⟩ := h k (by omega)
    refine ⟨e k, pSum (fun i => prN A (e i)) k, a1, a3, ?_, rfl⟩
    rw [a2]
    exact fun_pth h0 k (fun i hi => h i (by omega))
theorem pSum_add {f : Nat → Nat} {a : Nat} : ∀ b, pSum f (a + b) = pSum f a + pSum (fun i => f (a + i)) b
  | 0 => rfl
  | b + 1 => by
    show pSum f (a + b) + f (a + b) = pSum f a + (pSum (fun i => f (a + i)) b + f (a + b))
    rw [pSum_add b, Nat.add_assoc]
theorem pig : ∀ (n : Nat) (v : Nat → Nat), (∀ i, i ≤ n → v i < n) → ∃ i j, i < j ∧ j ≤ n ∧ v i = v j
  | 0, v, h => absurd (h 0 (Nat.le_refl _)) (Nat.not_lt_zero _)
  | n + 1, v, h => by
    by_cases hex : ∃ i, i ≤ n ∧ v i = v (n + 1)
    · obtain ⟨i, h1, h2⟩ := hex
      exact ⟨i, n + 1, by omega, Nat.le_refl _, h2⟩
    · have hne : ∀ i, i ≤ n → v i ≠ v (n + 1) := fun i hi q => hex ⟨i, hi, q⟩
      have hl := h (n + 1) (Nat.le_refl _)
      obtain ⟨i, j, h1, h2, h3⟩ := pig n (fun i => if v i = n then v (n + 1) else v i) (fun i hi => by
        show (if v i = n then v (n + 1) else v i) < n
        have a1 := hne i hi
        have a2 := h i (by omega)
        by_cases c : v i = n
        · rw [if_pos c]; omega
        · rw [if_neg c]; omega)
      have h3 : (if v i = n then v (n + 1) else v i) = (if v j = n then v (n + 1) else v j) := h3
      have b1 := hne i (by omega)
      have b2 := hne j (by omega)
      refine ⟨i, j, h1, by omega, ?_⟩
      by_cases c1 : v i = n
      · by_cases c2 : v j = n
        · omega
        · rw [if_pos c1, if_neg c2] at h3; omega
      · by_cases c2 : v j = n
        · rw [if_neg c1, if_pos c2] at h3; omega
        · rw [if_neg c1, if_neg c2] at h3; exact h3
/-- a round cut out of a walk -/
theorem cutW {A : Ab} {v e : Nat → Nat} {i d r : Nat} (h : isW A v e (i + d + r)) (hv : v i = v (i + d)) : ∃ v' e' : Nat → Nat, isW A v' e' (i + r) ∧ v' 0 = v 0 ∧ v' (i + r) = v (i + d + r) ∧ pSum (fun m => prN A (e' m)) (i + r) ≤ pSum (fun m => prN A (e m)) (i + d + r) := by
  refine ⟨fun m => if m ≤ i then v m else v (m + d), fun m => if m < i then e m else e (m + d), fun m hm => ?_, ?_, ?_, ?_⟩
  · show (if m < i then e m else e (m + d)) < nC A ∧ frN A (if m < i then e m else e (m + d)) = (if m ≤ i then v m else v (m + d)) ∧ toN A (if m < i then e m else e (m + d)) = (if m + 1 ≤ i then v (m + 1) else v (m + 1 + d))
    by_cases c : m < i
    · rw [if_pos c, if_pos (by omega), if_pos (by omega)]
      exact h m (by omega)
    · obtain ⟨a1, a2, a3⟩ := h (m + d) (by omega)
      rw [if_neg c, if_neg (show ¬ m + 1 ≤ i by omega), show m + 1 + d = m + d + 1 by omega]
      refine ⟨a1, ?_, a3⟩
      rw [a2]
      by_cases c2 : m = i
      · rw [if_pos (by omega), c2]; exact hv.symm
      · rw [if_neg (by omega)]
  · show (if 0 ≤ i then v 0 else v (0 + d)) = v 0
    rw [if_pos (by omega)]
  · show (if i + r ≤ i then v (i + r) else v (i + r + d)) = v (i + d + r)
    by_cases c : r = 0
    · rw [if_pos (by omega), c]; exact hv
    · rw [if_neg (by omega), show i + r + d = i + d + r by omega]
  · rw [pSum_add, pSum_add r, pSum_add d]
    have h1 : pSum (fun m => prN A (if m < i then e m else e (m + d))) i = pSum (fun m => prN A (e m)) i := pSum_congr (fun q hq => by rw [if_pos hq])
    have h2 : pSum (fun m => prN A (if i + m < i then e (i + m) else e (i + m + d))) r = pSum (fun m => prN A (e (i + d + m))) r := pSum_congr (fun q hq => by rw [if_neg (by omega), show i + q + d = i + d + q by omega])
    show pSum (fun m => prN A (if m < i then e m else e (m + d))) i + pSum (fun m => prN A (if i + m < i then e (i + m) else e (i + m + d))) r ≤ _
    rw [h1, h2]
    omega
theorem short {A : Ab} {p n : Nat} (hp : p < n) (hto : ∀ c, c < nC A → toN A c < n) : ∀ m k q w, k ≤ m → pth A p k q w → ∃ k' w', k' < n ∧ w' ≤ w ∧ pth A p k' q w'
  | 0, k, q, w, hk, h => ⟨k, w, by omega, Nat.le_refl _, h⟩
  | m + 1, k, q, w, hk, h => by
    by_cases hkn : k < n
    · exact ⟨k, w, hkn, Nat.le_refl _, h⟩
    · obtain ⟨v, e, g1, g2, g3, g4⟩ := pth_fun k q w h
      obtain ⟨i, j, h1, h2, h3⟩ := pig n v (fun i hi => by
        cases i with
        | zero => rw [g2]; exact hp
        | succ i =>
          obtain ⟨a1, a2, a3⟩ := g1 i (by omega)
          rw [← a3]
          exact hto _ a1)
      have e1 : k = i + (j - i) + (k - j) := by omega
      rw [e1] at g1 g3 g4
      obtain ⟨v', e', f1, f2, f3, f4⟩ := cutW g1 (by rw [h3]; congr 1; omega)
      have hp2 := fun_pth (p := p) (by rw [f2, g2]) _ f1
      rw [f3, g3] at hp2
      obtain ⟨k', w', b1, b2, b3⟩ := short hp hto m _ q _ (by omega) hp2
      exact ⟨k', w', b1, by omega, b3⟩
theorem pth_w {A : Ab} (hc : WCh A) {p : Nat} : ∀ k q w, pth A p k q w → w ≤ 99 * k
  | 0, q, w, h => by rw [h.2]; omega
  | k + 1, q, w, h => by
    obtain ⟨c, w', h1, h2, h3, h4⟩ := h
    have := pth_w hc k _ _ h3
    have := (WCh_pr hc h1).2
    omega
-- Bellman and Ford, in the order of the channels; b: p counts as 0 where a way begins
def sv (b : Bool) (p : Nat) (L : Nat → Nat) (f : Nat) : Nat := if b = true ∧ f = p then 0 else L f
def rlx (b : Bool) (A : Ab) (p : Nat) (L : Nat → Nat) (c : Nat) : Nat → Nat := fun q => if q = toN A c then min (L q) (sv b p L (frN A c) + prN A c) else L q
def in1 (b : Bool) (A : Ab) (p : Nat) (L : Nat → Nat) : Nat → Nat → Nat
  | 0 => L
  | c + 1 => rlx b A p (in1 b A p L c) c
def out1 (b : Bool) (A : Ab) (p : Nat) (L : Nat → Nat) : Nat → Nat → Nat
  | 0 => L
  | k + 1 => in1 b A p (out1 b A p L k) (nC A)
def sndL (b : Bool) (A : Ab) (p : Nat) (L : Nat → Nat) : Prop := ∀ q, L q ≤ 99999999 ∧ (L q < 99999999 → ∃ k, (b = true → 0 < k) ∧ pth A p k q (L q))
theorem rlx_le {b : Bool} {A : Ab} {p : Nat} {L : Nat → Nat} {c q : Nat} : rlx b A p L c q ≤ L q := by
  unfold rlx
  by_cases h : q = toN A c
  · rw [if_pos h]; exact Nat.min_le_left _ _
  · rw [if_neg h]; exact Nat.le_refl _
theorem rlx_snd {b : Bool} {A : Ab} {p : Nat} {L : Nat → Nat} {c : Nat} (hc : c < nC A) (h : sndL b A p L) : sndL b A p (rlx b A p L c) := by
  intro q
  refine ⟨Nat.le_trans rlx_le (h q).1, fun hl => ?_⟩
  unfold rlx at hl ⊢
  by_cases e : q = toN A c
  · rw [if_pos e] at hl ⊢
    by_cases c2 : L q ≤ sv b p L (frN A c) + prN A c
    · rw [Nat.min_eq_left c2] at hl ⊢
      exact (h q).2 hl
    · rw [Nat.min_eq_right (by omega)] at hl ⊢
      unfold sv at hl ⊢
      by_cases c3 : b = true ∧ frN A c = p
      · rw [if_pos c3]
        exact ⟨1, fun _ => by omega, c, 0, hc, e.symm, ⟨c3.2, rfl⟩, rfl⟩
      · rw [if_neg c3] at hl ⊢
        obtain ⟨k, h1, h2⟩ := (h (frN A c)).2 (by omega)
        exact ⟨k + 1, fun _ => by omega, c, _, hc, e.symm, h2, rfl⟩
  · rw [if_neg e] at hl ⊢
    exact (h q).2 hl
theorem in1_le {b : Bool} {A : Ab} {p : Nat} {L : Nat → Nat} {q : Nat} : ∀ c, in1 b A p L c q ≤ L q
  | 0 => Nat.le_refl _
  | c + 1 => Nat.le_trans rlx_le (in1_le c)
theorem in1_mono {b : Bool} {A : Ab} {p : Nat} {L : Nat → Nat} {q c : Nat} : ∀ d, in1 b A p L (c + d) q ≤ in1 b A p L c q
  | 0 => Nat.le_refl _
  | d + 1 => Nat.le_trans rlx_le (in1_mono d)
theorem in1_snd {b : Bool} {A : Ab} {p : Nat} {L : Nat → Nat} (h : sndL b A p L) : ∀ c, c ≤ nC A → sndL b A p (in1 b A p L c)
  | 0, _ => h
  | c + 1, hc => rlx_snd (by omega) (in1_snd h c (by omega))
theorem out1_snd {b : Bool} {A : Ab} {p : Nat} {L : Nat → Nat} (h : sndL b A p L) : ∀ k, sndL b A p (out1 b A p L k)
  | 0 => h
  | k + 1 => in1_snd (out1_snd h k) _ (Nat.le_refl _)
theorem out1_cpl {b : Bool} {A : Ab} {p : Nat} {L : Nat → Nat} (h0 : b = false → L p = 0) : ∀ k j q w, j ≤ k → (b = true → 0 < j) → pth A p j q w → out1 b A p L k q ≤ w
  | 0, j, q, w, hj, hb, h => by
    have : j = 0 := by omega
    subst this
    cases b with
    | true => exact absurd (hb rfl) (by omega)
    | false =>
      rw [h.1, h.2]
      show L p ≤ 0
      rw [h0 rfl]
      exact Nat.le_refl _
  | k + 1, j, q, w, hj, hb, h => by
    by_cases hjk : j ≤ k
    · exact Nat.le_trans (in1_le _) (out1_cpl h0 k j q w hjk hb h)
    · have : j = k + 1 := by omega
      subst this
      obtain ⟨c, w', h1, h2, h3, h4⟩ := h
      have hm : in1 b A p (out1 b A p L k) (nC A) q ≤ in1 b A p (out1 b A p L k) (c + 1) q := by
        have := in1_mono (b := b) (A := A) (p := p) (L := out1 b A p L k) (q := q) (c := c + 1) (nC A - (c + 1))
        rw [show c + 1 + (nC A - (c + 1)) = nC A by omega] at this
        exact this
      have hs : sv b p (in1 b A p (out1 b A p L k) c) (frN A c) ≤ w' := by
        unfold sv
        by_cases c3 : b = true ∧ frN A c = p
        · rw [if_pos c3]; exact Nat.zero_le _
        · rw [if_neg c3]
          refine Nat.le_trans (in1_le _) (out1_cpl h0 k k (frN A c) w' (Nat.le_refl _) (fun hbt => ?_) h3)
          rcases Nat.eq_zero_or_pos k with z | z
          · subst z
            exact absurd ⟨hbt, h3.1⟩ c3
          · exact z
      have hr : in1 b A p (out1 b A p L k) (c + 1) q ≤ sv b p (in1 b A p (out1 b A p L k) c) (frN A c) + prN A c := by
        show rlx b A p (in1 b A p (out1 b A p L k) c) c q ≤ _
        unfold rlx
        rw [if_pos h2.symm]
        exact Nat.min_le_right _ _
      show in1 b A p (out1 b A p L k) (nC A) q ≤ w
      omega
/-- what a ring asks for -/
def isRg (A : Ab) (p : Nat) (r : Option Nat) : Prop := match r with
  | none => ∀ k w, 0 < k → ¬ pth A p k p w
  | some s => (∃ k, 0 < k ∧ pth A p k p s) ∧ ∀ k w, 0 < k → pth A p k p w → s ≤ w
theorem isRg_uniq {A : Ab} {p : Nat} : ∀ {r1 r2 : Option Nat}, isRg A p r1 → isRg A p r2 → r1 = r2
  | none, none, _, _ => rfl
  | none, some s, h1, h2 => by
    obtain ⟨⟨k, a, b⟩, -⟩ := h2
    exact absurd b (h1 k s a)
  | some s, none, h1, h2 => by
    obtain ⟨⟨k, a, b⟩, -⟩ := h1
    exact absurd b (h2 k s a)
  | some s, some t, h1, h2 => by
    obtain ⟨⟨k, a, b⟩, m⟩ := h1
    obtain ⟨⟨k', a', b'⟩, m'⟩ := h2
    have := m k' t a' b'
    have := m' k s a b
    rw [show s = t by omega]
theorem WX_to {A : Ab} (h : WX A) : ∀ c, c < nC A → toN A c < nP A := fun _ hc => (h.2.1.to hc h.1).2
/-- a closed walk, shortened -/
theorem closed_short {A : Ab} (h : WX A) {p : Nat} (hp : p < nP A) {k w : Nat} (hk : 0 < k) (hw : pth A p k p w) : ∃ c k' w', c < nC A ∧ toN A c = p ∧ k' < nP A ∧ pth A p k' (frN A c) w' ∧ w' + prN A c ≤ w := by
  obtain ⟨j, rfl⟩ : ∃ j, k = j + 1 := ⟨k - 1, by omega⟩
  obtain ⟨c, w', h1, h2, h3, h4⟩ := hw
  obtain ⟨k', w2, b1, b2, b3⟩ := short hp (WX_to h) j j _ w' (Nat.le_refl _) h3
  exact ⟨c, k', w2, h1, h2, b1, b3, by omega⟩
def nevL : Nat → Nat := fun _ => 99999999
def srcL (p : Nat) : Nat → Nat := fun q => if q = p then 0 else 99999999
theorem nevL_snd {A : Ab} {p : Nat} : sndL true A p nevL := fun q => ⟨Nat.le_refl _, fun h => absurd h (Nat.lt_irrefl _)⟩
theorem srcL_snd {A : Ab} {p : Nat} : sndL false A p (srcL p) := fun q => by
  unfold srcL
  by_cases e : q = p
  · rw [if_pos e]
    exact ⟨by omega, fun _ => ⟨0, fun z => (by cases z), e, rfl⟩⟩
  · rw [if_neg e]
    exact ⟨Nat.le_refl _, fun h => absurd h (Nat.lt_irrefl _)⟩
/-- what the class finds -/
def rgC (A : Ab) (p : Nat) : Nat := out1 true A p nevL (nP A) p
theorem rgC_ok {A : Ab} (h : WX A) {p : Nat} (hp : p < nP A) : isRg A p (if rgC A p = 99999999 then none else some (rgC A p)) := by
  have hP := h.1.1
  have hs := out1_snd (nevL_snd (A := A) (p := p)) (nP A) p
  have hlow : ∀ k w, 0 < k → pth A p k p w → rgC A p ≤ w ∧ rgC A p < 99999999 := fun k w hk hw => by
    obtain ⟨c, k', w', h1, h2, h3, h4, h5⟩ := closed_short h hp hk hw
    have hcl : pth A p (k' + 1) p (w' + prN A c) := ⟨c, w', h1, h2, h4, rfl⟩
    have hle := out1_cpl (b := true) (L := nevL) (fun z => by cases z) (nP A) (k' + 1) p _ (by omega) (fun _ => by omega) hcl
    have hwb := pth_w h.2.1 _ _ _ hcl
    have hle : rgC A p ≤ w' + prN A c := hle
    omega
  by_cases c : rgC A p = 99999999
  · rw [if_pos c]
    intro k w hk hw
    have := (hlow k w hk hw).2
    omega
  · rw [if_neg c]
    have hle : rgC A p ≤ 99999999 := hs.1
    obtain ⟨k, h1, h2⟩ := hs.2 (show rgC A p < 99999999 by omega)
    exact ⟨⟨k, h1 rfl, h2⟩, fun k w hk hw => (hlow k w hk hw).1⟩
/-- what the model finds -/
def farL (A : Ab) (p : Nat) : Nat → Nat := out1 false A p (srcL p) 6
def bstL (A : Ab) (p : Nat) (F : Nat → Nat) : Nat → Option Nat
  | 0 => none
  | c + 1 => if toN A c = p ∧ F (frN A c) < 99999999 then (match bstL A p F c with
    | none => some (F (frN A c) + prN A c)
    | some b => if b ≤ F (frN A c) + prN A c then some b else some (F (frN A c) + prN A c)) else bstL A p F c
theorem bstL_none {A : Ab} {p : Nat} {F : Nat → Nat} : ∀ {n : Nat}, bstL A p F n = none → ∀ c, c < n → ¬ (toN A c = p ∧ F (frN A c) < 99999999)
  | 0, _, c, hc => absurd hc (Nat.not_lt_zero c)
  | n + 1, h, c, hc => by
    unfold bstL at h
    by_cases q : toN A n = p ∧ F (frN A n) < 99999999
    · rw [if_pos q] at h
      cases hb : bstL A p F n with
      | none => rw [hb] at h; cases h
      | some b =>
        rw [hb] at h
        simp only at h
        split at h <;> cases h
    · rw [if_neg q] at h
      by_cases e : c = n
      · rw [e]; exact q
      · exact bstL_none h c (by omega)
theorem bstL_some {A : Ab} {p : Nat} {F : Nat → Nat} : ∀ {n s : Nat}, bstL A p F n = some s → (∃ c, c < n ∧ toN A c = p ∧ F (frN A c) < 99999999 ∧ s = F (frN A c) + prN A c) ∧ ∀ c, c < n → toN A c = p → F (frN A c) < 99999999 → s ≤ F (frN A c) + prN A c
  | 0, s, h => by cases h
  | n + 1, s, h => by
    unfold bstL at h
    by_cases q : toN A n = p ∧ F (frN A n) < 99999999
    · rw [if_pos q] at h
      cases hb : bstL A p F n with
      | none =>
        rw [hb] at h
        cases h
        refine ⟨⟨n, by omega, q.1, q.2, rfl⟩, fun c hc h1 h2 => ?_⟩
        by_cases e : c = n
        · rw [e]; exact Nat.le_refl _
        · exact absurd ⟨h1, h2⟩ (bstL_none hb c (by omega))
      | some b =>
        rw [hb] at h
        obtain ⟨⟨c0, a1, a2, a3, a4⟩, am⟩ := bstL_some hb
        by_cases cc : b ≤ F (frN A n) + prN A n
        · simp only [cc, if_true] at h
          cases h
          refine ⟨⟨c0, by omega, a2, a3, a4⟩, fun c hc h1 h2 => ?_⟩
          by_cases e : c = n
          · rw [e]; exact cc
          · exact am c (by omega) h1 h2
        · simp only [cc, if_false] at h
          cases h
          refine ⟨⟨n, by omega, q.1, q.2, rfl⟩, fun c hc h1 h2 => ?_⟩
          by_cases e : c = n
          · rw [e]; exact Nat.le_refl _
          · have := am c (by omega) h1 h2
            omega
    · rw [if_neg q] at h
      obtain ⟨⟨c0, a1, a2, a3, a4⟩, am⟩ := bstL_some h
      refine ⟨⟨c0, by omega, a2, a3, a4⟩, fun c hc h1 h2 => ?_⟩
      by_cases e : c = n
      · rw [e] at h1 h2
        exact absurd ⟨h1, h2⟩ q
      · exact am c (by omega) h1 h2
def rgM (A : Ab) (p : Nat) : Option Nat := bstL A p (farL A p) (nC A)
theorem rgM_ok {A : Ab} (h : WX A) {p : Nat} (hp : p < nP A) : isRg A p (rgM A p) := by
  have hP := h.1.1
  have hs : sndL false A p (farL A p) := out1_snd srcL_snd 6
  have hlow : ∀ k w, 0 < k → pth A p k p w → ∃ c, c < nC A ∧ toN A c = p ∧ farL A p (frN A c) < 99999999 ∧ farL A p (frN A c) + prN A c ≤ w := fun k w hk hw => by
    obtain ⟨c, k', w', h1, h2, h3, h4, h5⟩ := closed_short h hp hk hw
    have hle : farL A p (frN A c) ≤ w' := out1_cpl (b := false) (L := srcL p) (fun _ => by unfold srcL; rw [if_pos rfl]) 6 k' _ _ (by omega) (fun z => by cases z) h4
    have hwb := pth_w h.2.1 _ _ _ h4
    exact ⟨c, h1, h2, by omega, by omega⟩
  cases hb : rgM A p with
  | none =>
    intro k w hk hw
    obtain ⟨c, h1, h2, h3, h4⟩ := hlow k w hk hw
    exact bstL_none hb c h1 ⟨h2, h3⟩
  | some s =>
    obtain ⟨⟨c0, a1, a2, a3, a4⟩, am⟩ := bstL_some hb
    obtain ⟨k, -, hk⟩ := (hs (frN A c0)).2 a3
    refine ⟨⟨k + 1, by omega, c0, _, a1, a2, hk, a4⟩, fun k w hk hw => ?_⟩
    obtain ⟨c, h1, h2, h3, h4⟩ := hlow k w hk hw
    have := am c h1 h2 h3
    omega
theorem rg_eq {A : Ab} (h : WX A) {p : Nat} (hp : p < nP A) : rgM A p = if rgC A p = 99999999 then none else some (rgC A p) := isRg_uniq (rgM_ok h hp) (rgC_ok h hp)
theorem rgM_0 {A : Ab} (h : WX A) {p : Nat} (hp : p < nP A) : rgM A p = some 0 ↔ ∃ k, 0 < k ∧ pth A p k p 0 := by
  have hr := rgM_ok h hp
  constructor
  · intro q
    rw [q] at hr
    exact hr.1
  · rintro ⟨k, h1, h2⟩
    cases hb : rgM A p with
    | none => rw [hb] at hr; exact absurd h2 (hr k 0 h1)
    | some s =>
      rw [hb] at hr
      have := hr.2 k 0 h1 h2
      rw [show s = 0 by omega]
-- the set reached by channels of promise 0
def zst (A : Ab) (p : Nat) (f : Nat → Bool) (c : Nat) : Nat → Bool := if prN A c = 0 ∧ (frN A c = p ∨ f (frN A c) = true) then adds f (toN A c) else f
def zin (A : Ab) (p : Nat) (f : Nat → Bool) : Nat → Nat → Bool
  | 0 => f
  | c + 1 => zst A p (zin A p f c) c
def zout (A : Ab) (p : Nat) : Nat → Nat → Bool
  | 0 => fun _ => false
  | k + 1 => zin A p (zout A p k) (nC A)
def sndZ (A : Ab) (p : Nat) (f : Nat → Bool) : Prop := ∀ q, f q = true → ∃ k, 0 < k ∧ pth A p k q 0
theorem adds_t {f : Nat → Bool} {t q : Nat} : adds f t q = true ↔ f q = true ∨ q = t := by
  unfold adds
  rw [Bool.or_eq_true, decide_eq_true_iff]
theorem zst_snd {A : Ab} {p : Nat} {f : Nat → Bool} {c : Nat} (hc : c < nC A) (h : sndZ A p f) : sndZ A p (zst A p f c) := by
  intro q hq
  unfold zst at hq
  by_cases e : prN A c = 0 ∧ (frN A c = p ∨ f (frN A c) = true)
  · rw [if_pos e] at hq
    rcases adds_t.mp hq with z | z
    · exact h q z
    · rcases e.2 with y | y
      · exact ⟨1, by omega, c, 0, hc, z.symm, ⟨y, rfl⟩, by rw [e.1]⟩
      · obtain ⟨k, h1, h2⟩ := h _ y
        exact ⟨k + 1, by omega, c, 0, hc, z.symm, h2, by rw [e.1]⟩
  · rw [if_neg e] at hq
    exact h q hq
theorem zst_mono {A : Ab} {p : Nat} {f : Nat → Bool} {c q : Nat} (h : f q = true) : zst A p f c q = true := by
  unfold zst
  by_cases e : prN A c = 0 ∧ (frN A c = p ∨ f (frN A c) = true)
  · rw [if_pos e]; exact adds_t.mpr (Or.inl h)
  · rw [if_neg e]; exact h
theorem zin_snd {A : Ab} {p : Nat} {f : Nat → Bool} (h : sndZ A p f) : ∀ c, c ≤ nC A → sndZ A p (zin A p f c)
  | 0, _ => h
  | c + 1, hc => zst_snd (by omega) (zin_snd h c (by omega))
theorem zin_mono {A : Ab} {p : Nat} {f : Nat → Bool} {q c : Nat} (h : zin A p f c q = true) : ∀ d, zin A p f (c + d) q = true
  | 0 => h
  | d + 1 => zst_mono (zin_mono h d)
theorem zout_snd {A : Ab} {p : Nat} : ∀ k, sndZ A p (zout A p k)
  | 0 => fun q hq => by cases hq
  | k + 1 => zin_snd (zout_snd k) _ (Nat.le_refl _)
theorem zin_of {A : Ab} {p : Nat} {f : Nat → Bool} {q c : Nat} (h : f q = true) : zin A p f c q = true := by
  have := zin_mono (A := A) (p := p) (f := f) (q := q) (c := 0) h c
  rw [Nat.zero_add] at this
  exact this
theorem zout_cpl {A : Ab} {p : Nat} : ∀ k j q, j ≤ k → 0 < j → pth A p j q 0 → zout A p k q = true
  | 0, j, q, hj, h0, _ => by omega
  | k + 1, j, q, hj, h0, h => by
    by_cases hjk : j ≤ k
    · exact zin_of (zout_cpl k j q hjk h0 h)
    · have : j = k + 1 := by omega
      subst this
      obtain ⟨c, w', h1, h2, h3, h4⟩ := h
      have hw : w' = 0 := by omega
      have hpr : prN A c = 0 := by omega
      subst hw
      have hs : frN A c = p ∨ zin A p (zout A p k) c (frN A c) = true := by
        rcases Nat.eq_zero_or_pos k with z | z
        · subst z
          exact Or.inl h3.1
        · exact Or.inr (zin_of (zout_cpl k k _ (Nat.le_refl _) z h3))
      have hr : zin A p (zout A p k) (c + 1) q = true := by
        show zst A p (zin A p (zout A p k) c) c q = true
        unfold zst
        rw [if_pos ⟨hpr, hs⟩]
        exact adds_t.mpr (Or.inr h2.symm)
      have := zin_mono hr (nC A - (c + 1))
      rw [show c + 1 + (nC A - (c + 1)) = nC A by omega] at this
      exact this
theorem zout_p {A : Ab} (h : WX A) {p : Nat} (hp : p < nP A) : zout A p (nP A) p = true ↔ ∃ k, 0 < k ∧ pth A p k p 0 := by
  constructor
  · exact zout_snd (nP A) p
  · rintro ⟨k, h1, h2⟩
    obtain ⟨c, k', w', g1, g2, g3, g4, g5⟩ := closed_short h hp h1 h2
    have hw : w' = 0 := by omega
    have hpr : prN A c = 0 := by omega
    subst hw
    exact zout_cpl (nP A) (k' + 1) p (by omega) (by omega) ⟨c, 0, g1, g2, g4, by rw [hpr]⟩
