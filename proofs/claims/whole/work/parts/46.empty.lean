/-! EMPTY LETTERS -/
theorem loop_st {σ R : Type} (F : Nat → σ → Int32 → Option R) (m : Nat) (P : Nat → σ → Prop) (res : R → Prop) (hex : ∀ n s, P m s → ∃ r, F (n + 1) s (nI m) = some r ∧ res r) (hst : ∀ n k s, k < m → P k s → ∃ s', P (k + 1) s' ∧ F (n + 1) s (nI k) = F n s' (nI (k + 1))) : ∀ fuel s, m < fuel → P 0 s → ∃ r, F fuel s (nI 0) = some r ∧ res r := by
  have key : ∀ d k fuel s, k + d = m → d < fuel → P k s → ∃ r, F fuel s (nI k) = some r ∧ res r := by
    intro d
    induction d with
    | zero =>
      intro k fuel s hk hf hp
      obtain ⟨n, rfl⟩ : ∃ n, fuel = n + 1 := ⟨fuel - 1, by omega⟩
      have : k = m := by omega
      subst this
      exact hex n s hp
    | succ d ih =>
      intro k fuel s hk hf hp
      obtain ⟨n, rfl⟩ : ∃ n, fuel = n + 1 := ⟨fuel - 1, by omega⟩
      obtain ⟨s', h1, h2⟩ := hst n k s (by omega) hp
      rw [h2]
      exact ih (k + 1) n s' (by omega) (by omega) h1
  intro fuel s hf hp
  exact key m 0 fuel s (by omega) hf hp
def askA (A : Ab) (c : Nat) : Bool := if sc A 2 = 2 then decide (waitA A (toN A c) = some c) else true
def thenA (A : Ab) (E : Int32) (c : Nat) : Int32 := jmin (E + ch A c 2) 99999999
def emC (A : Ab) (c : Nat) (v : Int32) : Ab := stS (stC (stC A c 4 v) c 6 (ch A c 6 + 1)) 4 (sc A 4 + 1)
def goesA (A : Ab) (p : Nat) (E : Int32) (c : Nat) : Bool := decide (ch A c 0 = nI p ∧ ¬ thenA A E c ≤ ch A c 4) && askA A c
def em1 (A : Ab) (p : Nat) (E : Int32) : Nat → Ab × Nat
  | 0 => (A, 0)
  | k + 1 => if goesA (em1 A p E k).1 p E k = true then (emC (em1 A p E k).1 k (thenA (em1 A p E k).1 E k), (em1 A p E k).2 + 1) else em1 A p E k
def earA (A : Ab) (p : Nat) : Int32 := jmin (safeA A (nI p)) (headT (ev A p))
def emA (A : Ab) (p : Nat) : Ab × Nat := em1 A p (earA A p) (nC A)
theorem jmin_le {x y : Int32} (hy : y.toInt ≤ 99999999) : (jmin x y).toInt ≤ 99999999 := by
  unfold jmin
  by_cases c : y < x
  · rw [if_pos c]; exact hy
  · rw [if_neg c]
    rw [Int32.lt_iff_toInt_lt] at c
    omega
theorem jmin_ge {x y : Int32} (hx : 0 ≤ x.toInt) (hy : 0 ≤ y.toInt) : 0 ≤ (jmin x y).toInt := by
  unfold jmin
  by_cases c : y < x
  · rw [if_pos c]; exact hy
  · rw [if_neg c]; exact hx
theorem nev_toInt : (99999999 : Int32).toInt = 99999999 := by decide
theorem toInt_addN2 {t : Int32} {d : Nat} (h0 : 0 ≤ t.toInt) (h1 : t.toInt ≤ 100000000) (hd : d ≤ 1000) : (t + nI d).toInt = t.toInt + d := by
  have h2 : ¬ t < 0 := by
    rw [Int32.lt_iff_toInt_lt]
    have e : (0 : Int32).toInt = 0 := by decide
    omega
  obtain ⟨j, hj, e⟩ := nI_of h2
  subst e
  have hj : j < 2147483648 := hj
  rw [nI_toInt hj] at h1
  rw [nI_add, nI_toInt (by omega), nI_toInt hj]
  omega
theorem WX_emC {A : Ab} (h : WX A) {c : Nat} {v : Int32} (h0 : 0 ≤ v.toInt) (h1 : v.toInt ≤ 99999999) : WX (emC A c v) := by
  obtain ⟨hs, hc, hso, ho, hz, htot, hev, hck⟩ := h
  refine ⟨hs, ?_, hso, ho, hz, htot, hev, fun c' hc' => ?_⟩
  · intro c' hc'
    obtain ⟨f, t', pr, de, k0, k1, k2, k3, k4⟩ := hc c' hc'
    refine ⟨f, t', pr, de, ?_, ?_, ?_, ?_, k4⟩
    · show ch (stC (stC A c 4 v) c 6 _) c' 0 = _
      rw [ch_stC, if_neg (by omega), ch_stC, if_neg (by omega)]; exact k0
    · show ch (stC (stC A c 4 v) c 6 _) c' 1 = _
      rw [ch_stC, if_neg (by omega), ch_stC, if_neg (by omega)]; exact k1
    · show ch (stC (stC A c 4 v) c 6 _) c' 2 = _
      rw [ch_stC, if_neg (by omega), ch_stC, if_neg (by omega)]; exact k2
    · show ch (stC (stC A c 4 v) c 6 _) c' 3 = _
      rw [ch_stC, if_neg (by omega), ch_stC, if_neg (by omega)]; exact k3
  · show 0 ≤ (ch (stC (stC A c 4 v) c 6 _) c' 4).toInt ∧ (ch (stC (stC A c 4 v) c 6 _) c' 4).toInt ≤ 99999999
    rw [ch_stC, if_neg (by omega), ch_stC]
    by_cases e : c' = c ∧ 4 = 4
    · rw [if_pos e]; exact ⟨h0, h1⟩
    · rw [if_neg e]; exact hck c' hc'
theorem then_ok {A : Ab} (h : WX A) {E : Int32} (hE0 : 0 ≤ E.toInt) (hE1 : E.toInt ≤ 99999999) {c : Nat} (hc : c < nC A) : 0 ≤ (thenA A E c).toInt ∧ (thenA A E c).toInt ≤ 99999999 := by
  obtain ⟨f, t', pr, de, k0, k1, k2, k3, k4, k5, k6, k7, k8, k9⟩ := h.2.1 c hc
  unfold thenA
  rw [k2]
  have := toInt_addN2 (t := E) (d := pr) hE0 (by omega) (by omega)
  exact ⟨jmin_ge (by omega) (by rw [nev_toInt]; omega), jmin_le (by rw [nev_toInt]; omega)⟩
theorem em1_ok {A : Ab} (h : WX A) {E : Int32} (hE0 : 0 ≤ E.toInt) (hE1 : E.toInt ≤ 99999999) (p : Nat) : ∀ k, k ≤ nC A → WX (em1 A p E k).1 ∧ nP (em1 A p E k).1 = nP A ∧ nC (em1 A p E k).1 = nC A ∧ nH (em1 A p E k).1 = nH A ∧ nA (em1 A p E k).1 = nA A ∧ (em1 A p E k).2 ≤ k ∧ sc (em1 A p E k).1 4 = sc A 4 + nI (em1 A p E k).2 ∧ (∀ j, j ≠ 4 → sc (em1 A p E k).1 j = sc A j) ∧ (∀ q, ev (em1 A p E k).1 q = ev A q)
  | 0, _ => ⟨h, rfl, rfl, rfl, rfl, Nat.le_refl _, by show sc A 4 = sc A 4 + 0; rw [Int32.add_zero], fun _ _ => rfl, fun _ => rfl⟩
  | k + 1, hk => by
    obtain ⟨i1, i2, i3, i4, i5, i6, i7, i8, i9⟩ := em1_ok h hE0 hE1 p k (by omega)
    by_cases c : goesA (em1 A p E k).1 p E k = true
    · have e : em1 A p E (k + 1) = (emC (em1 A p E k).1 k (thenA (em1 A p E k).1 E k), (em1 A p E k).2 + 1) := by
        show (if _ then _ else _) = _
        rw [if_pos c]
      rw [e]
      obtain ⟨t1, t2⟩ := then_ok i1 hE0 hE1 (c := k) (by omega)
      refine ⟨WX_emC i1 t1 t2, i2, i3, i4, i5, by show _ + 1 ≤ _; omega, ?_, fun j hj => ?_, i9⟩
      · show sc (emC (em1 A p E k).1 k (thenA (em1 A p E k).1 E k)) 4 = sc A 4 + nI ((em1 A p E k).2 + 1)
        unfold emC
        rw [sc_stS, if_pos rfl, i7, nI_succ, Int32.add_assoc]
      · show sc (emC (em1 A p E k).1 k (thenA (em1 A p E k).1 E k)) j = sc A j
        unfold emC
        rw [sc_stS, if_neg hj]
        exact i8 j hj
    · have e : em1 A p E (k + 1) = em1 A p E k := by
        show (if _ then _ else _) = _
        rw [if_neg c]
      rw [e]
      exact ⟨i1, i2, i3, i4, i5, by omega, i7, i8, i9⟩
theorem x3_emptyMayGo {M : Mem} {w : Nat} {A : Ab} (h : RC M w A) (hX : WX A) {c : Nat} (hc : c < nC A) : f_X3_emptyMayGo M w (nI c) = some (bI (askA A c)) := by
  have hC := hX.1.2.1
  have hP := hX.1.1
  have r6 : rd M w 6 = sc A 2 := h.2.2.1 2 (by omega) (by omega)
  obtain ⟨t1, t2⟩ := hX.2.1.to hc hX.1
  have b1 : rd M (w + 1 + 2) c = nI (toN A c) := ((h.1.2 c hc).2.1).trans t1
  unfold f_X3_emptyMayGo askA
  rw [r6]
  by_cases c2 : sc A 2 = 2
  · rw [if_pos c2, if_pos c2, ck_nI (by omega) (by omega), cl_nI (by omega), b1, x3_channelWaitedFor h hX.1 (by omega), bd_s]
    cases hw : waitA A (toN A c) with
    | none =>
      rw [oI_none, if_neg (fun q => nI_m1 (i := c) (by omega) q.symm)]
      rfl
    | some c3 =>
      have hl := (pBest_lt (waitA_lt hw)).1
      rw [oI_some]
      by_cases e : c3 = c
      · rw [e, if_pos rfl]
        simp [f_X3_emptyMayGo_L25, f_X3_emptyMayGo_L30, zk, bI]
      · rw [if_neg (fun q => e ((nI_eq (by omega) (by omega)).mp q))]
        have : decide (some c3 = some c) = false := decide_eq_false (fun q => e (Option.some.inj q))
        rw [this]
        rfl
  · rw [if_neg c2, if_neg c2]
    rfl
theorem ear_ok {A : Ab} (h : WX A) (p : Nat) : 0 ≤ (earA A p).toInt ∧ (earA A p).toInt ≤ 99999999 := by
  have h1 : 0 ≤ (safeA A (nI p)).toInt := by
    unfold safeA
    cases hb : pBest A (nI p) (nC A) with
    | none => show 0 ≤ (99999999 : Int32).toInt; rw [nev_toInt]; omega
    | some c => exact (h.2.2.2.2.2.2.2 c (pBest_lt hb).1).1
  have h2 : 0 ≤ (headT (ev A p)).toInt ∧ (headT (ev A p)).toInt ≤ 99999999 := by
    cases hv : ev A p with
    | nil => show 0 ≤ (99999999 : Int32).toInt ∧ (99999999 : Int32).toInt ≤ 99999999; rw [nev_toInt]; omega
    | cons x L =>
      obtain ⟨g1, g2, g3, g4⟩ := h.2.2.2.2.2.2.1 p x (by rw [hv]; exact List.mem_cons_self)
      show 0 ≤ x.1.toInt ∧ x.1.toInt ≤ 99999999
      omega
  exact ⟨jmin_ge h1 h2.1, jmin_le h2.2⟩
theorem x3_sendEmpty {M : Mem} {w : Nat} {A : Ab} (h : RC M w A) (hX : WX A) {p : Nat} (hp : p < 6) : ∃ M1, f_X3_sendEmptyLetters M w (nI p) = some M1 ∧ RC M1 w (emA A p).1 ∧ frm M M1 w (w + 37) := by
  have hC := hX.1.2.1
  obtain ⟨hE0, hE1⟩ := ear_ok hX p
  unfold f_X3_sendEmptyLetters
  rw [x3_safeOf h hX.1, bd_s, ck_nI (by omega) (by omega), cl_nI (by omega), x2_firstTime (h.2.2.2.2.2 p hp) (hX.1.2.2.2 p), bd_s, nm_to rfl]
  show ∃ M1, f_X3_sendEmptyLetters_L20 w (nI p) (earA A p) 1000 M (nI 0) = some M1 ∧ _
  refine loop_st (f_X3_sendEmptyLetters_L20 w (nI p) (earA A p)) (nC A) (fun k N => RC N w (em1 A p (earA A p) k).1 ∧ frm M N w (w + 37)) _ (fun n N hN => ?_) (fun n k N hk hN => ?_) 1000 M (by omega) ⟨h, frm_rf⟩
  · obtain ⟨g, hf⟩ := hN
    obtain ⟨i1, i2, i3, -⟩ := em1_ok hX hE0 hE1 p (nC A) (Nat.le_refl _)
    refine ⟨N, ?_, g, hf⟩
    rw [f_X3_sendEmptyLetters_L20, g.1.1, i3, if_pos (nI_le (Nat.le_refl _) (by omega))]
  · obtain ⟨g, hf⟩ := hN
    obtain ⟨i1, i2, i3, -⟩ := em1_ok hX hE0 hE1 p k (by omega)
    generalize hA : (em1 A p (earA A p) k).1 = Ak at g i1 i2 i3
    have hk3 : k < nC Ak := by omega
    obtain ⟨b0, b1, b2, b3, b4, b5, b6⟩ := g.1.2 k hk3
    have hth : jmin (earA A p + ch Ak k 2) 99999999 = thenA Ak (earA A p) k := rfl
    have hst : em1 A p (earA A p) (k + 1) = if goesA Ak p (earA A p) k = true then (emC Ak k (thenA Ak (earA A p) k), (em1 A p (earA A p) k).2 + 1) else em1 A p (earA A p) k := by rw [← hA]; rfl
    have hgo : f_X3_sendEmptyLetters_L20 w (nI p) (earA A p) (n + 1) N (nI k) = (if ch Ak k 0 = nI p then (if thenA Ak (earA A p) k ≤ ch Ak k 4 then f_X3_sendEmptyLetters_L20 w (nI p) (earA A p) n N (nI (k + 1)) else (if bI (askA Ak k) = 0 then f_X3_sendEmptyLetters_L20 w (nI p) (earA A p) n N (nI (k + 1)) else f_X3_sendEmptyLetters_L20 w (nI p) (earA A p) n (wr (wr (wr N (w + 1 + 5) k (thenA Ak (earA A p) k)) (w + 1 + 7) k (ch Ak k 6 + 1)) w 8 (sc Ak 4 + 1)) (nI (k + 1)))) else f_X3_sendEmptyLetters_L20 w (nI p) (earA A p) n N (nI (k + 1))) := by
      obtain ⟨N1, e1⟩ : ∃ N1, N1 = wr N (w + 1 + 5) k (thenA Ak (earA A p) k) := ⟨_, rfl⟩
      obtain ⟨N2, e2⟩ : ∃ N2, N2 = wr N1 (w + 1 + 7) k (ch Ak k 6 + 1) := ⟨_, rfl⟩
      obtain ⟨N3, e3⟩ : ∃ N3, N3 = wr N2 w 8 (sc Ak 4 + 1) := ⟨_, rfl⟩
      have r1 : rd N1 (w + 1 + 7) k = ch Ak k 6 := by rw [e1, rd_wr, if_neg (by omega)]; exact b6
      have r2 : rd N2 w 8 = sc Ak 4 := by rw [e2, rd_wr, if_neg (by omega), e1, rd_wr, if_neg (by omega)]; exact g.2.2.1 4 (by omega) (by omega)
      rw [f_X3_sendEmptyLetters_L20, g.1.1, if_neg (nI_ge hk3 (by omega)), ck_nI (by omega) (by omega), cl_nI (by omega), b2, hth, nm_to rfl, ck_nI (by omega) (by omega), b0, ck_nI (by omega) (by omega), b4, x3_emptyMayGo g i1 hk3, bd_s, ck_nI (by omega) (by omega), nm_to e1, ck_nI (by omega) (by omega), ck_nI (by omega) (by omega), r1, nm_to e2, r2, nm_to e3, ← e1, ← e2, ← e3]
      unfold f_X3_sendEmptyLetters_L118 nm
      rw [nI_succ]
    rw [hst]
    by_cases c1 : ch Ak k 0 = nI p
    · by_cases c2 : thenA Ak (earA A p) k ≤ ch Ak k 4
      · have hg : goesA Ak p (earA A p) k = false := by simp [goesA, c2]
        refine ⟨N, ?_, ?_⟩
        · rw [hg, if_neg (by decide), hA]; exact ⟨g, hf⟩
        · rw [hgo, if_pos c1, if_pos c2]
      · cases hk2 : askA Ak k with
        | false =>
          have hg : goesA Ak p (earA A p) k = false := by simp [goesA, hk2]
          refine ⟨N, ?_, ?_⟩
          · rw [hg, if_neg (by decide), hA]; exact ⟨g, hf⟩
          · rw [hgo, if_pos c1, if_neg c2, hk2, if_pos (show bI false = 0 from rfl)]
        | true =>
          have hg : goesA Ak p (earA A p) k = true := by simp [goesA, c1, c2, hk2]
          refine ⟨wr (wr (wr N (w + 1 + 5) k (thenA Ak (earA A p) k)) (w + 1 + 7) k (ch Ak k 6 + 1)) w 8 (sc Ak 4 + 1), ?_, ?_⟩
          rotate_left
          · rw [hgo, if_pos c1, if_neg c2, hk2, if_neg (by decide)]
          · rw [hg, if_pos rfl]
            have g1 := RC_C (k := 4) (c := k) (v := thenA Ak (earA A p) k) g (by omega)
            have g2 := RC_C (k := 6) (c := k) (v := ch Ak k 6 + 1) g1 (by omega)
            have g3 := RC_S (k := 4) (v := sc Ak 4 + 1) g2 (by omega) (by omega)
            exact ⟨g3, frm_tr hf (frm_tr (frm_wr (by omega) (by omega)) (frm_tr (frm_wr (by omega) (by omega)) (frm_wr (by omega) (by omega))))⟩
    · have hg : goesA Ak p (earA A p) k = false := by simp [goesA, c1]
      refine ⟨N, ?_, ?_⟩
      · rw [hg, if_neg (by decide), hA]; exact ⟨g, hf⟩
      · rw [hgo, if_neg c1]
