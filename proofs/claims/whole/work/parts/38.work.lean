/-! a part works on its first event: the class -/
theorem frm_w {M M1 : Mem} {lo hi i k : Nat} {v : Int32} (e : M1 = wr M i k v) (h1 : lo ≤ i) (h2 : i < hi) : frm M M1 lo hi := by rw [e]; exact frm_wr h1 h2
def WCh (A : Ab) : Prop := ∀ c, c < nC A → ∃ f t pr de : Nat, ch A c 0 = nI f ∧ ch A c 1 = nI t ∧ ch A c 2 = nI pr ∧ ch A c 3 = nI de ∧ f < nP A ∧ t < nP A ∧ f ≠ t ∧ pr ≤ 99 ∧ 1 ≤ de ∧ de ≤ 99
def outN (A : Ab) (p : Nat) : Nat := pCnt (fun c => decide (ch A c 0 = nI p)) (nC A)
def toN (A : Ab) (c : Nat) : Nat := (ch A c 1).toNatClampNeg
def comeA (A : Ab) (c : Nat) (t2 v2 : Int32) : Ab := stN (stC (stC (stE A (toN A c) (insK (posK t2 (nI c) (ev A (toN A c))) (t2, nI c, nI (nA A), v2) (ev A (toN A c)))) c 5 (ch A c 5 + 1)) c 4 (jmax (ch A c 4) t2)) (nP A) (nC A) (nH A) (nA A + 1)
def sendA (A : Ab) (p : Nat) (t v : Int32) : Ab := if v ≤ 0 then A else if outN A p = 0 then A else match fstIx (isPlace A (nI p) (v.toNatClampNeg % outN A p)) (nC A) with
  | none => A
  | some c => comeA A c (t + ch A c 3) (v - 1)
theorem pos_nI {v : Int32} (h : ¬ v ≤ 0) : v = nI v.toNatClampNeg ∧ v.toNatClampNeg < 2147483648 ∧ 0 < v.toNatClampNeg := by
  have h1 : ¬ v < 0 := fun q => h (Int32.le_of_lt q)
  obtain ⟨j, hj, e⟩ := nI_of h1
  have hj : j < 2147483648 := hj
  subst e
  rw [cl_nI hj]
  refine ⟨rfl, hj, ?_⟩
  cases j with
  | zero => exact absurd (Int32.le_refl _) h
  | succ j => omega
theorem WCh.to {A : Ab} (h : WCh A) {c : Nat} (hc : c < nC A) (hs : WS A) : ch A c 1 = nI (toN A c) ∧ toN A c < nP A := by
  obtain ⟨f, t, pr, de, h0, h1, h2, h3, h4, h5, h6⟩ := h c hc
  have hP := hs.1
  unfold toN
  rw [h1, cl_nI (by omega)]
  exact ⟨rfl, h5⟩
theorem x3_sendLetter {M : Mem} {w : Nat} {A : Ab} (h : RC M w A) (hs : WS A) (hc : WCh A) (hso : ∀ q, srt (ev A q)) (h29 : ∀ q, (ev A q).length < 30) {p : Nat} (hp : p < 6) (t v : Int32) : ∃ M1, f_X3_sendLetter M w (nI p) t v = some M1 ∧ RC M1 w (sendA A p t v) ∧ frm M M1 w (w + 37) := by
  have hC := hs.2.1
  have hP := hs.1
  have hcf : f_X0_countFrom M (w + 1) (nI p) = some (nI (outN A p)) := x0_countFrom h.1 hC (nI p)
  have hle := pCnt_le (fun c => decide (ch A c 0 = nI p)) (nC A)
  unfold f_X3_sendLetter sendA
  rw [hcf]
  show ∃ M1, (if v ≤ 0 then f_X3_sendLetter_L19 M w else if nI (outN A p) = 0 then f_X3_sendLetter_L19 M w else _) = some M1 ∧ _
  by_cases h1 : v ≤ 0
  · rw [if_pos h1, if_pos h1]
    exact ⟨M, rfl, h, frm_rf⟩
  · rw [if_neg h1, if_neg h1]
    by_cases h2 : outN A p = 0
    · rw [if_pos h2, if_pos (by rw [h2]; rfl)]
      exact ⟨M, rfl, h, frm_rf⟩
    · have h2' : ¬ nI (outN A p) = 0 := nI_ne0 (by omega) (by unfold outN; omega)
      have hol : outN A p ≤ 12 := Nat.le_trans hle hC
      rw [if_neg h2, if_neg h2']
      obtain ⟨v1, v2, v3⟩ := pos_nI h1
      have hr : jrem v (nI (outN A p)) = nI (v.toNatClampNeg % outN A p) := by
        conv => lhs; rw [v1]
        exact jrem_nI v2 (by omega) (by omega)
      have hm : v.toNatClampNeg % outN A p < 2147483648 := Nat.lt_of_lt_of_le (Nat.mod_lt _ (by omega)) (by omega)
      have hap := x0_atPlaceFrom h.1 hC (nI p) hm
      unfold nz
      rw [if_neg h2', hr, hap]
      cases hf : fstIx (isPlace A (nI p) (v.toNatClampNeg % outN A p)) (nC A) with
      | none => exact ⟨M, rfl, h, frm_rf⟩
      | some c =>
        obtain ⟨hcl, -⟩ := fstIx_lt hf
        obtain ⟨b0, b1, b2, b3, b4, b5, b6⟩ := h.1.2 c hcl
        obtain ⟨t1, t2⟩ := hc.to hcl hs
        have hne : ¬ nI c = -1 := nI_m1 (by omega)
        obtain ⟨k1, k2, k3⟩ := posK_ok (t := t + ch A c 3) (b := nI c) (hso (toN A c))
        obtain ⟨M1, m1, m2, m3⟩ := x2_add (h.2.2.2.2.2 (toN A c) (by omega)) (h29 _) (t := t + ch A c 3) (b := nI c) (o := nI (nA A)) (v := v - 1) k1 k2 k3
        have g1 := RC_E h (show toN A c < 6 by omega) m3 m2
        have f1 : frm M M1 w (w + 37) := frm_wd m3 (by omega) (by omega)
        obtain ⟨M2, e2⟩ : ∃ M2, M2 = wr M1 (w + 1 + 6) c (ch A c 5 + 1) := ⟨_, rfl⟩
        have g2 : RC M2 w (stC (stE A (toN A c) (insK (posK (t + ch A c 3) (nI c) (ev A (toN A c))) (t + ch A c 3, nI c, nI (nA A), v - 1) (ev A (toN A c)))) c 5 (ch A c 5 + 1)) := by rw [e2]; exact RC_C (k := 5) g1 (by omega)
        obtain ⟨M3, e3⟩ : ∃ M3, M3 = wr M2 (w + 1 + 5) c (jmax (ch A c 4) (t + ch A c 3)) := ⟨_, rfl⟩
        have g3 : RC M3 w (comeA A c (t + ch A c 3) (v - 1)) := by rw [e3]; exact RC_C (k := 4) g2 (by omega)
        refine ⟨M3, ?_, g3, frm_tr f1 (frm_tr (frm_w e2 (by omega) (by omega)) (frm_w e3 (by omega) (by omega)))⟩
        have r1 : rd M1 (w + 1 + 6) c = ch A c 5 := (g1.1.2 c hcl).2.2.2.2.2.1
        have r2 : rd M2 (w + 1 + 5) c = ch A c 4 := by
          have q := (g2.1.2 c hcl).2.2.2.2.1
          rw [ch_stC, if_neg (by omega)] at q
          exact q
        simp only [bd, oI_some, hne, if_false]
        rw [ck_nI (by omega) (by omega), cl_nI (by omega), b3]
        rw [nm_to rfl, ck_nI (by omega) (by omega), b1, t1, ck_nI (by omega) (by omega), cl_nI (by omega), m1]
        simp only []
        rw [ck_nI (by omega) (by omega), ck_nI (by omega) (by omega), r1, nm_to e2, ck_nI (by omega) (by omega), ck_nI (by omega) (by omega), r2, nm_to e3]
def work1 (A : Ab) (p : Nat) (x : Ev) (L : List Ev) : Ab := stS (stP (stP (stP (stE A p L) 0 p (pt A 0 p + 1)) 1 p (jrem ((31 * pt A 1 p + x.2.2.2) + x.1) 1000003)) 2 p x.1) 3 (sc A 3 + 1)
def workA (A : Ab) (p : Nat) : Ab := match ev A p with
  | [] => A
  | x :: L => sendA (work1 A p x L) p x.1 x.2.2.2
theorem srt_tail {A : Ab} {p : Nat} {x : Ev} {L : List Ev} (hso : ∀ q, srt (ev A q)) (hv : ev A p = x :: L) : ∀ q, srt (ev (work1 A p x L) q) := by
  intro q
  show srt (if q = p then L else ev A q)
  by_cases e : q = p
  · rw [if_pos e]
    have := hso p
    rw [hv] at this
    exact (List.pairwise_cons.mp this).2
  · rw [if_neg e]; exact hso q
theorem x3_workOnFirst {M : Mem} {w : Nat} {A : Ab} (h : RC M w A) (hs : WS A) (hc : WCh A) (hso : ∀ q, srt (ev A q)) {p : Nat} (hp : p < 6) (h29 : ∀ q, q ≠ p → (ev A q).length < 30) : ∃ M1, f_X3_workOnFirst M w (nI p) = some M1 ∧ RC M1 w (workA A p) ∧ frm M M1 w (w + 37) := by
  have hw := h.2.2.2.2.2 p hp
  have hl30 := hs.2.2.2 p
  unfold f_X3_workOnFirst workA
  rw [ck_nI (by omega) (by omega), cl_nI (by omega)]
  cases hv : ev A p with
  | nil =>
    rw [hv] at hw
    have h0 : rd M (w + 9 + 4 + 4 * p) 3 = 0 := hw.1
    rw [if_pos h0]
    exact ⟨M, rfl, h, frm_rf⟩
  | cons x L =>
    rw [hv] at hw hl30
    have h0 : ¬ rd M (w + 9 + 4 + 4 * p) 3 = 0 := by rw [hw.1]; exact nI_ne0 (by simp) (by omega)
    rw [if_neg h0, x2_firstTime hw hl30, x2_firstValue hw hl30]
    obtain ⟨M7, m1, m2, m3⟩ := x2_removeFirst hw hl30
    have g7 := RC_E h hp m3 m2
    have f7 : frm M M7 w (w + 37) := frm_wd m3 (by omega) (by omega)
    obtain ⟨M12, e12⟩ : ∃ M12, M12 = wr M7 (w + 10) p (pt A 0 p + 1) := ⟨_, rfl⟩
    have g12 : RC M12 w (stP (stE A p L) 0 p (pt A 0 p + 1)) := by rw [e12]; exact RC_P (k := 0) g7 (by omega) hp
    obtain ⟨M16, e16⟩ : ∃ M16, M16 = wr M12 (w + 11) p (jrem ((31 * pt A 1 p + x.2.2.2) + x.1) 1000003) := ⟨_, rfl⟩
    have g16 : RC M16 w (stP (stP (stE A p L) 0 p (pt A 0 p + 1)) 1 p (jrem ((31 * pt A 1 p + x.2.2.2) + x.1) 1000003)) := by rw [e16]; exact RC_P (k := 1) g12 (by omega) hp
    obtain ⟨M18, e18⟩ : ∃ M18, M18 = wr M16 (w + 12) p x.1 := ⟨_, rfl⟩
    have g18 : RC M18 w (stP (stP (stP (stE A p L) 0 p (pt A 0 p + 1)) 1 p (jrem ((31 * pt A 1 p + x.2.2.2) + x.1) 1000003)) 2 p x.1) := by rw [e18]; exact RC_P (k := 2) g16 (by omega) hp
    obtain ⟨M19, e19⟩ : ∃ M19, M19 = wr M18 w 7 (sc A 3 + 1) := ⟨_, rfl⟩
    have g19 : RC M19 w (work1 A p x L) := by rw [e19]; exact RC_S (k := 3) g18 (by omega) (by omega)
    have f19 : frm M M19 w (w + 37) := frm_tr f7 (frm_tr (frm_w e12 (by omega) (by omega)) (frm_tr (frm_w e16 (by omega) (by omega)) (frm_tr (frm_w e18 (by omega) (by omega)) (frm_w e19 (by omega) (by omega)))))
    have r7 : rd M7 (w + 10) p = pt A 0 p := g7.2.2.2.2.1 0 p (by omega) hp
    have r12 : rd M12 (w + 11) p = pt A 1 p := by
      have q := g12.2.2.2.2.1 1 p (by omega) hp
      rw [pt_stP, if_neg (by omega)] at q
      exact q
    have r18 : rd M18 w 7 = sc A 3 := g18.2.2.1 3 (by omega) (by omega)
    have hl29 : L.length < 30 := by
      have : L.length + 1 ≤ 30 := hl30
      omega
    have hws : WS (work1 A p x L) := ⟨hs.1, hs.2.1, hs.2.2.1, fun q => by
      show (if q = p then L else ev A q).length ≤ 30
      by_cases e : q = p
      · rw [if_pos e]; omega
      · rw [if_neg e]; exact hs.2.2.2 q⟩
    obtain ⟨M20, n1, n2, n3⟩ := x3_sendLetter g19 hws hc (srt_tail hso hv) (fun q => by
      show (if q = p then L else ev A q).length < 30
      by_cases e : q = p
      · rw [if_pos e]; exact hl29
      · rw [if_neg e]; exact h29 q e) hp x.1 x.2.2.2
    refine ⟨M20, ?_, n2, frm_tr f19 n3⟩
    have hz : ¬ (1000003 : Int32) = 0 := by decide
    show bd (f_X2_removeFirst M (w + 9 + 4 + 4 * p)) _ = some M20
    rw [m1]
    show ck (nI p) 6 _ = some M20
    rw [ck_nI (by omega) (by omega), ck_nI (by omega) (by omega), r7, nm_to e12, ck_nI (by omega) (by omega)]
    unfold nz
    rw [if_neg hz, ck_nI (by omega) (by omega), r12, show headT (x :: L) = x.1 from rfl, show headV (x :: L) = x.2.2.2 from rfl, nm_to e16, ck_nI (by omega) (by omega), nm_to e18, r18, nm_to e19]
    show bd (f_X3_sendLetter M19 w (nI p) x.1 x.2.2.2) _ = some M20
    rw [n1]
    rfl
