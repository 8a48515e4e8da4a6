/-! LET GO, both -/
theorem loop_ct {σ R : Type} (F : Nat → σ → Int32 → Option R) (m : Nat) (P : Nat → σ → Prop) (res : R → Prop) (hex : ∀ n s, P m s → ∃ r, F (n + 1) s (nI m) = some r ∧ res r) (hst : ∀ n k s, k < m → P k s → (∀ s', P (k + 1) s' → ∃ r, F n s' (nI (k + 1)) = some r ∧ res r) → ∃ r, F (n + 1) s (nI k) = some r ∧ res r) : ∀ fuel s, m < fuel → P 0 s → ∃ r, F fuel s (nI 0) = some r ∧ res r := by
  have key : ∀ d k fuel s, k + d = m → d < fuel → P k s → ∃ r, F fuel s (nI k) = some r ∧ res r := by
    intro d
    induction d with
    | zero =>
      intro k fuel s hk hf hp
      obtain ⟨n, rfl⟩ : ∃ n, fuel = n + 1 := ⟨fuel - 1, by omega⟩
      have : k = m := by omega
      subst this
      exact hex n s hp
    | succ d ih =>
      intro k fuel s hk hf hp
      obtain ⟨n, rfl⟩ : ∃ n, fuel = n + 1 := ⟨fuel - 1, by omega⟩
      exact hst n k s (by omega) hp (fun s' hs => ih (k + 1) n s' (by omega) (by omega) hs)
  intro fuel s hf hp
  exact key m 0 fuel s (by omega) hf hp
theorem x5_letInner {M : Mem} {S : AR} {B : Bg} (h : MS M S B) (hw : WR S) (hb : nA S.1 + 30 ≤ 2147483647) {p : Nat} (hp : p < 6) {T : Int32} (hT : T ≠ 99999999) (k7 : Mem → Int32 → Option (Int32 × Mem)) : ∃ N B1, f_X5_lets_L17 k7 157 T (nI p) 1000 M = k7 N (nI (p + 1)) ∧ MS N (itW S p (nT T (ev S.1 p))) B1 ∧ frD M N := by
  have hm : nT T (ev S.1 p) ≤ 30 := Nat.le_trans (nT_le T _) (hw.1.1.2.2.2 p)
  have key : ∀ d k fuel N B, k + d = nT T (ev S.1 p) → d < fuel → MS N (itW S p k) B → frD M N → ∃ N1 B1, f_X5_lets_L17 k7 157 T (nI p) fuel N = k7 N1 (nI (p + 1)) ∧ MS N1 (itW S p (nT T (ev S.1 p))) B1 ∧ frD M N1 := by
    intro d
    induction d with
    | zero =>
      intro k fuel N B hk hf g hfr
      obtain ⟨n, rfl⟩ : ∃ n, fuel = n + 1 := ⟨fuel - 1, by omega⟩
      have hk : k = nT T (ev S.1 p) := by omega
      obtain ⟨i1, i2, i3, i4, i5, i6, i7⟩ := itW_ok hw hp T k (by omega) (by omega)
      have ht : f_X5_firstTime N 157 0 (nI p) = some (headT (ev (itW S p k).1 p)) := x5_firstTime g.1 i1.1.1 g.2.2 (by omega) (by omega)
      have hne : ¬ headT (ev (itW S p k).1 p) = T := fun q => by
        have := (nT_pos hT).mp q
        omega
      refine ⟨N, B, ?_, by rw [← hk]; exact g, hfr⟩
      rw [f_X5_lets_L17, ht, bd_s, if_neg hne]
      unfold f_X5_lets_L41 nm
      rw [nI_1]
    | succ d ih =>
      intro k fuel N B hk hf g hfr
      obtain ⟨n, rfl⟩ : ∃ n, fuel = n + 1 := ⟨fuel - 1, by omega⟩
      obtain ⟨i1, i2, i3, i4, i5, i6, i7⟩ := itW_ok hw hp T k (by omega) (by omega)
      have ht : f_X5_firstTime N 157 0 (nI p) = some (headT (ev (itW S p k).1 p)) := x5_firstTime g.1 i1.1.1 g.2.2 (by omega) (by omega)
      have he : headT (ev (itW S p k).1 p) = T := (nT_pos hT).mpr (by omega)
      have hne : ev (itW S p k).1 p ≠ [] := fun q => by
        rw [q] at he
        exact hT he.symm
      obtain ⟨v, N1, B2, a1, a2, a3, a4, a5⟩ := x5_work g i1 (by omega) hp hne
      rw [f_X5_lets_L17, ht, bd_s, if_pos he, a1, bd_s, a3, bd_s]
      exact ih (k + 1) n N1 B2 (by omega) (by omega) a4 (frD_tr hfr a5)
  exact key (nT T (ev S.1 p)) 0 1000 M B (by omega) (by omega) h frD_rf
def ltP (S : AR) (T : Int32) : Nat → AR
  | 0 => S
  | k + 1 => itW (ltP S T k) k (nT T (ev (ltP S T k).1 k))
theorem ltP_ok {S : AR} (h : WR S) (T : Int32) : ∀ k, k ≤ 6 → nA S.1 + 30 * k ≤ 2147483647 → WR (ltP S T k) ∧ nA (ltP S T k).1 ≤ nA S.1 + 30 * k ∧ nP (ltP S T k).1 = nP S.1 ∧ nC (ltP S T k).1 = nC S.1 ∧ nH (ltP S T k).1 = nH S.1 ∧ ∀ j, j ≠ 3 → sc (ltP S T k).1 j = sc S.1 j
  | 0, _, _ => ⟨h, Nat.le_refl _, rfl, rfl, rfl, fun _ _ => rfl⟩
  | k + 1, hk, hb => by
    obtain ⟨i1, i2, i3, i4, i5, i6⟩ := ltP_ok h T k (by omega) (by omega)
    have hm : nT T (ev (ltP S T k).1 k) ≤ 30 := Nat.le_trans (nT_le T _) (i1.1.1.2.2.2 k)
    obtain ⟨j1, j2, j3, j4, j5, j6, j7⟩ := itW_ok i1 (p := k) (by omega) T (nT T (ev (ltP S T k).1 k)) (Nat.le_refl _) (by omega)
    exact ⟨j1, by show nA (itW (ltP S T k) k (nT T (ev (ltP S T k).1 k))).1 ≤ _; omega, j3.trans i3, j4.trans i4, j5.trans i5, fun j hj => (j7 j hj).trans (i6 j hj)⟩
def rsA (A : Ab) (v : Int32) : Nat → Ab
  | 0 => A
  | k + 1 => stC (rsA A v k) k 4 (jmax (ch (rsA A v k) k 4) v)
theorem WX_C4 {A : Ab} (h : WX A) {c : Nat} {v : Int32} (h0 : 0 ≤ v.toInt) (h1 : v.toInt ≤ 99999999) : WX (stC A c 4 v) := by
  obtain ⟨hs, hc, hso, ho, hz, htot, hev, hck⟩ := h
  refine ⟨hs, ?_, hso, ho, hz, htot, hev, fun c' hc' => ?_⟩
  · intro c' hc'
    obtain ⟨f, t', pr, de, k0, k1, k2, k3, k4⟩ := hc c' hc'
    refine ⟨f, t', pr, de, ?_, ?_, ?_, ?_, k4⟩
    · rw [ch_stC, if_neg (by omega)]; exact k0
    · rw [ch_stC, if_neg (by omega)]; exact k1
    · rw [ch_stC, if_neg (by omega)]; exact k2
    · rw [ch_stC, if_neg (by omega)]; exact k3
  · rw [ch_stC]
    by_cases e : c' = c ∧ 4 = 4
    · rw [if_pos e]; exact ⟨h0, h1⟩
    · rw [if_neg e]; exact hck c' hc'
theorem rsA_ok {A : Ab} (h : WX A) {v : Int32} (h0 : 0 ≤ v.toInt) (h1 : v.toInt ≤ 99999999) : ∀ k, k ≤ nC A → WX (rsA A v k) ∧ nP (rsA A v k) = nP A ∧ nC (rsA A v k) = nC A ∧ nH (rsA A v k) = nH A ∧ nA (rsA A v k) = nA A ∧ (∀ j, sc (rsA A v k) j = sc A j) ∧ ∀ q, ev (rsA A v k) q = ev A q
  | 0, _ => ⟨h, rfl, rfl, rfl, rfl, fun _ => rfl, fun _ => rfl⟩
  | k + 1, hk => by
    obtain ⟨i1, i2, i3, i4, i5, i6, i7⟩ := rsA_ok h h0 h1 k (by omega)
    have hc := i1.2.2.2.2.2.2.2 k (by omega)
    have hj : 0 ≤ (jmax (ch (rsA A v k) k 4) v).toInt ∧ (jmax (ch (rsA A v k) k 4) v).toInt ≤ 99999999 := by
      unfold jmax
      by_cases c : ch (rsA A v k) k 4 < v
      · rw [if_pos c]; exact ⟨h0, h1⟩
      · rw [if_neg c]; exact hc
    exact ⟨WX_C4 i1 hj.1 hj.2, i2, i3, i4, i5, i6, i7⟩
theorem x0_raise {M : Mem} {A : Ab} (h : RC M (0 + 1) A) (hX : WX A) {v : Int32} (h0 : 0 ≤ v.toInt) (h1 : v.toInt ≤ 99999999) : ∃ M1, f_X0_raiseClocks M (0 + 1 + 1) v = some M1 ∧ RC M1 (0 + 1) (rsA A v (nC A)) ∧ frm M M1 1 38 := by
  have hC := hX.1.2.1
  unfold f_X0_raiseClocks
  refine loop_st (f_X0_raiseClocks_L2 (0 + 1 + 1) v) (nC A) (fun k N => RC N (0 + 1) (rsA A v k) ∧ frm M N 1 38) _ (fun n N hN => ?_) (fun n k N hk hN => ?_) 1000 M (by omega) ⟨h, frm_rf⟩
  · obtain ⟨g, hf⟩ := hN
    obtain ⟨i1, i2, i3, -⟩ := rsA_ok hX h0 h1 (nC A) (Nat.le_refl _)
    refine ⟨N, ?_, g, hf⟩
    rw [f_X0_raiseClocks_L2, g.1.1, i3, if_pos (nI_le (Nat.le_refl _) (by omega))]
  · obtain ⟨g, hf⟩ := hN
    obtain ⟨i1, i2, i3, -⟩ := rsA_ok hX h0 h1 k (by omega)
    have b4 : rd N (0 + 1 + 1 + 5) k = ch (rsA A v k) k 4 := (g.1.2 k (by omega)).2.2.2.2.1
    obtain ⟨N1, e1⟩ : ∃ N1, N1 = wr N (0 + 1 + 1 + 5) k (jmax (ch (rsA A v k) k 4) v) := ⟨_, rfl⟩
    refine ⟨N1, ⟨by rw [e1]; exact RC_C (k := 4) g (by omega), frm_tr hf (frm_w e1 (by omega) (by omega))⟩, ?_⟩
    rw [f_X0_raiseClocks_L2, g.1.1, i3, if_neg (nI_ge hk (by omega)), ck_nI (by omega) (by omega), ck_nI (by omega) (by omega), cl_nI (by omega), b4, nm_to e1]
    unfold nm
    rw [nI_succ]
def lgB (A : Ab) (T : Int32) : Ab := stS (rsA A (T + 1) (nC A)) 6 (sc (rsA A (T + 1) (nC A)) 6 + 1)
def letS (S : AR) : AR := (lgB (ltP S (leastA S.1) (nP S.1)).1 (leastA S.1), (ltP S (leastA S.1) (nP S.1)).2)
theorem pMin_min (A : Ab) : ∀ k q, q < k → (headT (ev A (pMin A k))).toInt ≤ (headT (ev A q)).toInt
  | 0, q, h => absurd h (by omega)
  | k + 1, q, h => by
    show (headT (ev A (if headT (ev A (pMin A k)) ≤ headT (ev A k) then pMin A k else k))).toInt ≤ _
    by_cases c : headT (ev A (pMin A k)) ≤ headT (ev A k)
    · rw [if_pos c]
      rw [Int32.le_iff_toInt_le] at c
      by_cases e : q = k
      · rw [e]; exact c
      · exact pMin_min A k q (by omega)
    · rw [if_neg c]
      rw [Int32.le_iff_toInt_le] at c
      by_cases e : q = k
      · rw [e]; exact Int.le_refl _
      · have := pMin_min A k q (by omega)
        omega
theorem pSum_pos {f : Nat → Nat} : ∀ {n : Nat}, 0 < pSum f n → ∃ q, q < n ∧ 0 < f q
  | 0, h => absurd h (by show ¬ 0 < 0; omega)
  | n + 1, h => by
    have h : 0 < pSum f n + f n := h
    by_cases c : 0 < f n
    · exact ⟨n, by omega, c⟩
    · obtain ⟨q, h1, h2⟩ := pSum_pos (f := f) (n := n) (by omega)
      exact ⟨q, by omega, h2⟩
theorem least_ne {A : Ab} (h : WX A) (ht : 0 < totE A) : ∃ x L, ev A (pMin A (nP A)) = x :: L ∧ leastA A = x.1 ∧ 0 ≤ x.1.toInt ∧ x.1.toInt ≤ 19800 ∧ pMin A (nP A) < nP A := by
  obtain ⟨q, q1, q2⟩ := pSum_pos ht
  have hm := pMin_min A (nP A) q q1
  have hq : (headT (ev A q)).toInt < 99999999 := by
    cases hv : ev A q with
    | nil => rw [hv] at q2; exact absurd q2 (by show ¬ 0 < 0; omega)
    | cons x L =>
      obtain ⟨g1, g2, g3, g4⟩ := h.2.2.2.2.2.2.1 q x (by rw [hv]; exact List.mem_cons_self)
      show x.1.toInt < 99999999
      omega
  cases hv : ev A (pMin A (nP A)) with
  | nil =>
    rw [hv] at hm
    have : (headT ([] : List Ev)).toInt = 99999999 := nev_toInt
    omega
  | cons x L =>
    obtain ⟨g1, g2, g3, g4⟩ := h.2.2.2.2.2.2.1 _ x (by rw [hv]; exact List.mem_cons_self)
    refine ⟨x, L, rfl, ?_, g1, by omega, pMin_lt A (nP A) (by omega)⟩
    unfold leastA
    rw [hv]
    rfl
theorem least_ok {A : Ab} (h : WX A) (ht : 0 < totE A) : leastA A ≠ 99999999 ∧ 0 ≤ (leastA A).toInt ∧ (leastA A).toInt ≤ 19800 ∧ (leastA A + 1).toInt = (leastA A).toInt + 1 := by
  obtain ⟨x, L, h1, h2, h3, h4, h5⟩ := least_ne h ht
  rw [h2]
  refine ⟨fun q => ?_, h3, h4, ?_⟩
  · rw [q, nev_toInt] at h4
    omega
  · exact toInt_addN (d := 1) h3 (by omega) (by omega)
theorem WR_let {S : AR} (h : WR S) (hb : nA S.1 + 180 ≤ 2147483647) (ht : 0 < totE S.1) : WR (letS S) ∧ nA (letS S).1 ≤ nA S.1 + 180 ∧ nP (letS S).1 = nP S.1 ∧ nC (letS S).1 = nC S.1 ∧ nH (letS S).1 = nH S.1 ∧ sc (letS S).1 2 = sc S.1 2 := by
  have hP := h.1.1.1
  obtain ⟨t1, t2, t3, t4⟩ := least_ok h.1 ht
  obtain ⟨i1, i2, i3, i4, i5, i6⟩ := ltP_ok h (leastA S.1) (nP S.1) hP (by omega)
  obtain ⟨j1, j2, j3, j4, j5, j6, j7⟩ := rsA_ok i1.1 (v := leastA S.1 + 1) (by omega) (by omega) (nC (ltP S (leastA S.1) (nP S.1)).1) (Nat.le_refl _)
  refine ⟨⟨WX_S j1 _ _, i1.2⟩, ?_, j2.trans i3, j3.trans i4, j4.trans i5, ?_⟩
  · show nA (rsA (ltP S (leastA S.1) (nP S.1)).1 (leastA S.1 + 1) (nC (ltP S (leastA S.1) (nP S.1)).1)) ≤ _
    omega
  · show sc (stS (rsA (ltP S (leastA S.1) (nP S.1)).1 (leastA S.1 + 1) (nC (ltP S (leastA S.1) (nP S.1)).1)) 6 _) 2 = _
    rw [sc_stS, if_neg (by omega), j6, i6 2 (by omega)]
theorem x4_let {M : Mem} {S : AR} (h : CS M S) (hw : WR S) (hb : nA S.1 + 180 ≤ 2147483647) (ht : 0 < totE S.1) : ∃ M1, f_X4_letEarliestGo M 0 = some (leastA S.1, M1) ∧ CS M1 (letS S) ∧ frC M M1 := by
  have hP := hw.1.1.1
  obtain ⟨t1, t2, t3, t4⟩ := least_ok hw.1 ht
  unfold f_X4_letEarliestGo
  rw [x3_leastTime h.1 hw.1.1, bd_s]
  have key := loop_ct (f_X4_letEarliestGo_L10 0 (leastA S.1)) (nP S.1) (fun k N => CS N (ltP S (leastA S.1) k) ∧ frC M N) (fun r => r.1 = leastA S.1 ∧ CS r.2 (letS S) ∧ frC M r.2) (fun n N hN => ?_) (fun n k N hk hN ih => ?_) 1000 M (by omega) ⟨h, frC_rf⟩
  · obtain ⟨⟨r1, r2⟩, k1, k2, k3, k4⟩ := key
    have k2 : r1 = leastA S.1 := k2
    refine ⟨r2, ?_, k3, k4⟩
    rw [← k2] at k1 ⊢
    exact k1
  · obtain ⟨g, hf⟩ := hN
    obtain ⟨i1, i2, i3, i4, i5, i6⟩ := ltP_ok hw (leastA S.1) (nP S.1) hP (by omega)
    have z5 : rd N (0 + 1) 5 = nI (nP S.1) := by rw [← i3]; exact g.1.2.1
    obtain ⟨N1, a1, a2, a3⟩ := x0_raise g.1 i1.1 (v := leastA S.1 + 1) (by omega) (by omega)
    have r6 : rd N1 (0 + 1) 10 = sc (rsA (ltP S (leastA S.1) (nP S.1)).1 (leastA S.1 + 1) (nC (ltP S (leastA S.1) (nP S.1)).1)) 6 := a2.2.2.1 6 (by omega) (by omega)
    obtain ⟨N2, e2⟩ : ∃ N2, N2 = wr N1 (0 + 1) 10 (sc (rsA (ltP S (leastA S.1) (nP S.1)).1 (leastA S.1 + 1) (nC (ltP S (leastA S.1) (nP S.1)).1)) 6 + 1) := ⟨_, rfl⟩
    have f2 : frm N1 N2 1 38 := frm_w e2 (by omega) (by omega)
    refine ⟨(leastA S.1, N2), ?_, rfl, ⟨?_, ?_⟩, frC_tr hf (frC_tr (frC_w a3) (frC_w f2))⟩
    · rw [f_X4_letEarliestGo_L10, z5, if_pos (nI_le (Nat.le_refl _) (by omega)), a1, bd_s, r6, nm_to e2]
    · rw [e2]
      exact RC_S (k := 6) a2 (by omega) (by omega)
    · refine LC_congr g.2 (fun i j q1 q2 => ?_)
      exact (f2.1 i j (by omega)).trans (a3.1 i j (by omega))
  · obtain ⟨g, hf⟩ := hN
    obtain ⟨i1, i2, i3, i4, i5, i6⟩ := ltP_ok hw (leastA S.1) k (by omega) (by omega)
    have z5 : rd N (0 + 1) 5 = nI (nP S.1) := by rw [← i3]; exact g.1.2.1
    rw [f_X4_letEarliestGo_L10, z5, if_neg (nI_ge hk (by omega))]
    refine x4_letInner g i1 (by omega) (p := k) (by omega) t1 (fun Mq q2 => f_X4_letEarliestGo_L10 0 (leastA S.1) n Mq q2) (fun N1 g1 f1 => ?_)
    exact ih N1 ⟨g1, frC_tr hf f1⟩
theorem jmax_T {x T : Int32} (h : (T + 1).toInt = T.toInt + 1) : jmax x (T + 1) = if x ≤ T then T + 1 else x := by
  unfold jmax
  by_cases c : x ≤ T
  · rw [if_pos c, if_pos (by rw [Int32.lt_iff_toInt_lt, h]; rw [Int32.le_iff_toInt_le] at c; omega)]
  · rw [if_neg c, if_neg (by rw [Int32.lt_iff_toInt_lt, h]; rw [Int32.le_iff_toInt_le] at c; omega)]
theorem x5_raise {M : Mem} {A : Ab} {B : Bg} (h : RM M 0 A B) (hX : WX A) {T : Int32} (h0 : 0 ≤ T.toInt) (h1 : T.toInt ≤ 19800) (hT : (T + 1).toInt = T.toInt + 1) : ∃ M1, f_X5_lets_L47 M 157 T = some (T, M1) ∧ RM M1 0 (lgB A T) B ∧ frmR M M1 0 := by
  have hC := hX.1.2.1
  unfold f_X5_lets_L47
  have key := loop_st (f_X5_lets_L49 157 T) (nC A) (fun k N => RM N 0 (rsA A (T + 1) k) B ∧ frmR M N 0) (fun r => r.1 = T ∧ RM r.2 0 (lgB A T) B ∧ frmR M r.2 0) (fun n N hN => ?_) (fun n k N hk hN => ?_) 1000 M (by omega) ⟨h, frmR_rf⟩
  · obtain ⟨⟨r1, r2⟩, k1, k2, k3, k4⟩ := key
    have k2 : r1 = T := k2
    refine ⟨r2, ?_, k3, k4⟩
    rw [← k2] at k1 ⊢
    exact k1
  · obtain ⟨g, hf⟩ := hN
    obtain ⟨i1, i2, i3, -⟩ := rsA_ok hX (v := T + 1) (by omega) (by omega) (nC A) (Nat.le_refl _)
    have z1 : rd N (157 + 1) (1 : Int32).toNatClampNeg = nI (nC A) := by rw [← i3]; exact g.1.1
    have z6 : rd N (157 + 1) (6 : Int32).toNatClampNeg = sc (rsA A (T + 1) (nC A)) 6 := g.2.2.1 6 (by omega) (by omega)
    obtain ⟨N1, e1⟩ : ∃ N1, N1 = wr N (157 + 1) (6 : Int32).toNatClampNeg (sc (rsA A (T + 1) (nC A)) 6 + 1) := ⟨_, rfl⟩
    have g1 : RM N1 0 (lgB A T) B := by
      rw [e1, show (6 : Int32).toNatClampNeg = 0 + 6 from rfl]
      exact RM_S (k := 6) g (by omega) (by omega) (by omega)
    refine ⟨(T, N1), ?_, rfl, g1, frmR_tr hf (frmR_w e1 (by show 0 ≤ _; omega) (by show 6 < 262; omega))⟩
    rw [f_X5_lets_L49, show (1 : Int32) = nI 1 from rfl, ck_lit 1 (by omega), show (nI 1).toNatClampNeg = (1 : Int32).toNatClampNeg from rfl, z1, if_pos (nI_le (Nat.le_refl _) (by omega)), show (6 : Int32) = nI 6 from rfl, ck_lit 6 (by omega), ck_lit 6 (by omega), show (nI 6).toNatClampNeg = (6 : Int32).toNatClampNeg from rfl, z6]
    rw [show nI 1 = (1 : Int32) from rfl, nm_to e1]
  · obtain ⟨g, hf⟩ := hN
    obtain ⟨i1, i2, i3, -⟩ := rsA_ok hX (v := T + 1) (by omega) (by omega) k (by omega)
    have z1 : rd N (157 + 1) (1 : Int32).toNatClampNeg = nI (nC A) := by rw [← i3]; exact g.1.1
    have b4 : rd N (157 + 1) (0 + 28 + 7 * k + 4) = ch (rsA A (T + 1) k) k 4 := g.1.2 k 4 (by omega) (by omega)
    have j4 : nI (0 + 28 + 7 * k) + 4 = nI (0 + 28 + 7 * k + 4) := nI_add _ 4
    have hc1 : ∀ X : Option (Int32 × Mem), ck (1 : Int32) 1048 X = X := fun X => ck_nI (k := 1) (by omega) (by omega)
    obtain ⟨N1, e1⟩ : ∃ N1, N1 = wr N (157 + 1) (0 + 28 + 7 * k + 4) (jmax (ch (rsA A (T + 1) k) k 4) (T + 1)) := ⟨_, rfl⟩
    refine ⟨N1, ⟨by rw [e1]; exact RM_C (k := 4) g (by omega) (by omega) (by omega) rfl, frmR_tr hf (frmR_w e1 (by omega) (by omega))⟩, ?_⟩
    rw [f_X5_lets_L49, hc1, z1, if_neg (nI_ge hk (by omega)), x5_at0, bd_s, bd_s, j4, ck_nI (by omega) (by omega), cl_nI (by omega), b4]
    rw [jmax_T hT] at e1
    by_cases c : ch (rsA A (T + 1) k) k 4 ≤ T
    · rw [if_pos c] at e1
      rw [if_pos c]
      unfold f_X5_lets_L104
      rw [ck_nI (by omega) (by omega), cl_nI (by omega), nm_to e1]
      unfold nm
      rw [nI_succ]
    · rw [if_neg c] at e1
      rw [if_neg c, bd_s, j4, ck_nI (by omega) (by omega), cl_nI (by omega), b4]
      unfold f_X5_lets_L104
      rw [ck_nI (by omega) (by omega), cl_nI (by omega), nm_to e1]
      unfold nm
      rw [nI_succ]
theorem x5_let {M : Mem} {S : AR} {B : Bg} (h : MS M S B) (hw : WR S) (hb : nA S.1 + 180 ≤ 2147483647) (ht : 0 < totE S.1) : ∃ M1 B1, f_X5_lets M 157 = some (leastA S.1, M1) ∧ MS M1 (letS S) B1 ∧ frD M M1 := by
  have hP := hw.1.1.1
  obtain ⟨t1, t2, t3, t4⟩ := least_ok hw.1 ht
  unfold f_X5_lets
  rw [x5_leastTime h.1 hw.1.1 h.2.2 hw.1.wn (fun q => hw.1.2.2.2.2.1 0 (by omega)), bd_s]
  have key := loop_ct (f_X5_lets_L7 157 (leastA S.1)) (nP S.1) (fun k N => ∃ B1, MS N (ltP S (leastA S.1) k) B1 ∧ frD M N) (fun r => r.1 = leastA S.1 ∧ ∃ B1, MS r.2 (letS S) B1 ∧ frD M r.2) (fun n N hN => ?_) (fun n k N hk hN ih => ?_) 1000 M (by omega) ⟨B, h, frD_rf⟩
  · obtain ⟨⟨r1, r2⟩, k1, k2, B1, k3, k4⟩ := key
    have k2 : r1 = leastA S.1 := k2
    refine ⟨r2, B1, ?_, k3, k4⟩
    rw [← k2] at k1 ⊢
    exact k1
  · obtain ⟨B1, g, hf⟩ := hN
    obtain ⟨i1, i2, i3, i4, i5, i6⟩ := ltP_ok hw (leastA S.1) (nP S.1) hP (by omega)
    have z0 : rd N (157 + 1) (0 : Int32).toNatClampNeg = nI (nP S.1) := by rw [← i3]; exact g.1.2.1
    have hc0 : ∀ X : Option (Int32 × Mem), ck (0 : Int32) 1048 X = X := fun X => ck_nI (k := 0) (by omega) (by omega)
    obtain ⟨N1, a1, a2, a3⟩ := x5_raise g.1 i1.1 t2 t3 t4
    obtain ⟨j1, j2, j3, j4, j5, j6, j7⟩ := rsA_ok i1.1 (v := leastA S.1 + 1) (by omega) (by omega) (nC (ltP S (leastA S.1) (nP S.1)).1) (Nat.le_refl _)
    refine ⟨(leastA S.1, N1), ?_, rfl, B1, ⟨a2, LM_congr g.2.1 (fun i j q => a3.1 i j (by omega)), WE_ev g.2.2 j7 j2⟩, frD_tr hf (frD_r a3)⟩
    rw [f_X5_lets_L7, hc0, z0, if_pos (nI_le (Nat.le_refl _) (by omega))]
    exact a1
  · obtain ⟨B1, g, hf⟩ := hN
    obtain ⟨i1, i2, i3, i4, i5, i6⟩ := ltP_ok hw (leastA S.1) k (by omega) (by omega)
    have z0 : rd N (157 + 1) (0 : Int32).toNatClampNeg = nI (nP S.1) := by rw [← i3]; exact g.1.2.1
    have hc0 : ∀ X : Option (Int32 × Mem), ck (0 : Int32) 1048 X = X := fun X => ck_nI (k := 0) (by omega) (by omega)
    obtain ⟨N1, B2, a1, a2, a3⟩ := x5_letInner g i1 (by omega) (p := k) (by omega) t1 (fun Mq q2 => f_X5_lets_L7 157 (leastA S.1) n Mq q2)
    rw [f_X5_lets_L7, hc0, z0, if_neg (nI_ge hk (by omega)), a1]
    exact ih N1 ⟨B2, a2, frD_tr hf a3⟩
