/-! channel, parts -/
def valC (x1 x2 x3 x4 : Int32) (k : Nat) : Int32 := if k = 0 then x1 else if k = 1 then x2 else if k = 2 then x3 else if k = 3 then x4 else 0
def newC (A : Ab) (x1 x2 x3 x4 : Int32) : Ab := ((nP A, nC A + 1, nH A, nA A), A.2.1, (fun c k => if c = nC A then valC x1 x2 x3 x4 k else ch A c k), A.2.2.2)
theorem ch_newC {A : Ab} {x1 x2 x3 x4 : Int32} {c k : Nat} : ch (newC A x1 x2 x3 x4) c k = if c = nC A then valC x1 x2 x3 x4 k else ch A c k := rfl
theorem WX_newC {A : Ab} (h : WX A) (hC : nC A < 12) {f t pr de : Nat} (hf : f < nP A) (ht : t < nP A) (hft : f ≠ t) (hpr : pr ≤ 99) (hd1 : 1 ≤ de) (hd2 : de ≤ 99) : WX (newC A (nI f) (nI t) (nI pr) (nI de)) := by
  obtain ⟨hs, hc, hso, ho, hz, htot, hev, hck⟩ := h
  refine ⟨⟨hs.1, by show nC A + 1 ≤ 12; omega, hs.2.2⟩, ?_, hso, ho, hz, htot, hev, ?_⟩
  · intro c hcl
    have hcl : c < nC A + 1 := hcl
    by_cases e : c = nC A
    · exact ⟨f, t, pr, de, by rw [ch_newC, if_pos e]; rfl, by rw [ch_newC, if_pos e]; rfl, by rw [ch_newC, if_pos e]; rfl, by rw [ch_newC, if_pos e]; rfl, hf, ht, hft, hpr, hd1, hd2⟩
    · obtain ⟨f', t', pr', de', k0, k1, k2, k3, k4⟩ := hc c (by omega)
      exact ⟨f', t', pr', de', by rw [ch_newC, if_neg e]; exact k0, by rw [ch_newC, if_neg e]; exact k1, by rw [ch_newC, if_neg e]; exact k2, by rw [ch_newC, if_neg e]; exact k3, k4⟩
  · intro c hcl
    have hcl : c < nC A + 1 := hcl
    rw [ch_newC]
    by_cases e : c = nC A
    · rw [if_pos e]
      show 0 ≤ (0 : Int32).toInt ∧ (0 : Int32).toInt ≤ 99999999
      decide
    · rw [if_neg e]
      exact hck c (by omega)
theorem x0_add {M : Mem} {A : Ab} (h : RC M (0 + 1) A) (hC : nC A < 12) (x1 x2 x3 x4 : Int32) : ∃ M1, f_X0_add M (0 + 1 + 1) x1 x2 x3 x4 = some (nI (nC A), M1) ∧ RC M1 (0 + 1) (newC A x1 x2 x3 x4) ∧ frm M M1 1 38 := by
  obtain ⟨M1, e1⟩ : ∃ M1, M1 = wr M (0 + 1 + 1 + 1) (nC A) x1 := ⟨_, rfl⟩
  obtain ⟨M2, e2⟩ : ∃ M2, M2 = wr M1 (0 + 1 + 1 + 2) (nC A) x2 := ⟨_, rfl⟩
  obtain ⟨M3, e3⟩ : ∃ M3, M3 = wr M2 (0 + 1 + 1 + 3) (nC A) x3 := ⟨_, rfl⟩
  obtain ⟨M4, e4⟩ : ∃ M4, M4 = wr M3 (0 + 1 + 1 + 4) (nC A) x4 := ⟨_, rfl⟩
  obtain ⟨M5, e5⟩ : ∃ M5, M5 = wr M4 (0 + 1 + 1 + 5) (nC A) 0 := ⟨_, rfl⟩
  obtain ⟨M6, e6⟩ : ∃ M6, M6 = wr M5 (0 + 1 + 1 + 6) (nC A) 0 := ⟨_, rfl⟩
  obtain ⟨M7, e7⟩ : ∃ M7, M7 = wr M6 (0 + 1 + 1 + 7) (nC A) 0 := ⟨_, rfl⟩
  obtain ⟨M8, e8⟩ : ∃ M8, M8 = wr M7 (0 + 1 + 1) 7 (nI (nC A + 1)) := ⟨_, rfl⟩
  have r0 : rd M (0 + 1 + 1) 7 = nI (nC A) := h.1.1
  have r7 : rd M7 (0 + 1 + 1) 7 = nI (nC A) := by
    rw [e7, rd_wr, if_neg (by omega), e6, rd_wr, if_neg (by omega), e5, rd_wr, if_neg (by omega), e4, rd_wr, if_neg (by omega), e3, rd_wr, if_neg (by omega), e2, rd_wr, if_neg (by omega), e1, rd_wr, if_neg (by omega), r0]
  have hrd : ∀ i j, (i < 0 + 1 + 1 ∨ 0 + 1 + 1 + 8 ≤ i ∨ (j ≠ nC A ∧ i ≠ 0 + 1 + 1)) → rd M8 i j = rd M i j := fun i j q => by
    rw [e8, rd_wr, if_neg (by omega), e7, rd_wr, if_neg (by omega), e6, rd_wr, if_neg (by omega), e5, rd_wr, if_neg (by omega), e4, rd_wr, if_neg (by omega), e3, rd_wr, if_neg (by omega), e2, rd_wr, if_neg (by omega), e1, rd_wr, if_neg (by omega)]
  have s1 : rd M8 (0 + 1 + 1 + 1) (nC A) = x1 := by rw [e8, rd_wr, if_neg (by omega), e7, rd_wr, if_neg (by omega), e6, rd_wr, if_neg (by omega), e5, rd_wr, if_neg (by omega), e4, rd_wr, if_neg (by omega), e3, rd_wr, if_neg (by omega), e2, rd_wr, if_neg (by omega), e1, rd_wr, if_pos ⟨rfl, rfl⟩]
  have s2 : rd M8 (0 + 1 + 1 + 2) (nC A) = x2 := by rw [e8, rd_wr, if_neg (by omega), e7, rd_wr, if_neg (by omega), e6, rd_wr, if_neg (by omega), e5, rd_wr, if_neg (by omega), e4, rd_wr, if_neg (by omega), e3, rd_wr, if_neg (by omega), e2, rd_wr, if_pos ⟨rfl, rfl⟩]
  have s3 : rd M8 (0 + 1 + 1 + 3) (nC A) = x3 := by rw [e8, rd_wr, if_neg (by omega), e7, rd_wr, if_neg (by omega), e6, rd_wr, if_neg (by omega), e5, rd_wr, if_neg (by omega), e4, rd_wr, if_neg (by omega), e3, rd_wr, if_pos ⟨rfl, rfl⟩]
  have s4 : rd M8 (0 + 1 + 1 + 4) (nC A) = x4 := by rw [e8, rd_wr, if_neg (by omega), e7, rd_wr, if_neg (by omega), e6, rd_wr, if_neg (by omega), e5, rd_wr, if_neg (by omega), e4, rd_wr, if_pos ⟨rfl, rfl⟩]
  have s5 : rd M8 (0 + 1 + 1 + 5) (nC A) = 0 := by rw [e8, rd_wr, if_neg (by omega), e7, rd_wr, if_neg (by omega), e6, rd_wr, if_neg (by omega), e5, rd_wr, if_pos ⟨rfl, rfl⟩]
  have s6 : rd M8 (0 + 1 + 1 + 6) (nC A) = 0 := by rw [e8, rd_wr, if_neg (by omega), e7, rd_wr, if_neg (by omega), e6, rd_wr, if_pos ⟨rfl, rfl⟩]
  have s7 : rd M8 (0 + 1 + 1 + 7) (nC A) = 0 := by rw [e8, rd_wr, if_neg (by omega), e7, rd_wr, if_pos ⟨rfl, rfl⟩]
  refine ⟨M8, ?_, ?_, frm_tr (frm_w e1 (by omega) (by omega)) (frm_tr (frm_w e2 (by omega) (by omega)) (frm_tr (frm_w e3 (by omega) (by omega)) (frm_tr (frm_w e4 (by omega) (by omega)) (frm_tr (frm_w e5 (by omega) (by omega)) (frm_tr (frm_w e6 (by omega) (by omega)) (frm_tr (frm_w e7 (by omega) (by omega)) (frm_w e8 (by omega) (by omega))))))))⟩
  · unfold f_X0_add
    rw [r0, if_pos (show nI (nC A) < 12 from nI_lt (b := 12) hC (by omega)), nm_to rfl, ck_nI (by omega) (by omega), cl_nI (by omega), nm_to e1, ck_nI (by omega) (by omega), nm_to e2, ck_nI (by omega) (by omega), nm_to e3, ck_nI (by omega) (by omega), nm_to e4, ck_nI (by omega) (by omega), nm_to e5, ck_nI (by omega) (by omega), nm_to e6, ck_nI (by omega) (by omega), nm_to e7, r7, nI_1, nm_to e8]
  · obtain ⟨⟨a1, a2⟩, a3, a4, a5, a6, a7⟩ := h
    refine ⟨⟨by rw [e8, rd_wr, if_pos ⟨rfl, rfl⟩]; rfl, fun c hc => ?_⟩, by rw [hrd _ _ (by omega)]; exact a3, fun k' q1 q2 => by rw [hrd _ _ (by omega)]; exact a4 k' q1 q2, by rw [hrd _ _ (by omega)]; exact a5, fun k' p q1 q2 => by rw [hrd _ _ (by omega)]; exact a6 k' p q1 q2, fun p q1 => ⟨by rw [hrd _ _ (by omega)]; exact (a7 p q1).1, fun j hj => ?_⟩⟩
    · have hc : c < nC A + 1 := hc
      by_cases e : c = nC A
      · subst e
        rw [ch_newC, ch_newC, ch_newC, ch_newC, ch_newC, ch_newC, ch_newC, if_pos rfl, if_pos rfl, if_pos rfl, if_pos rfl, if_pos rfl, if_pos rfl, if_pos rfl]
        exact ⟨s1, s2, s3, s4, s5, s6, s7⟩
      · rw [ch_newC, ch_newC, ch_newC, ch_newC, ch_newC, ch_newC, ch_newC, if_neg e, if_neg e, if_neg e, if_neg e, if_neg e, if_neg e, if_neg e, hrd _ _ (by omega), hrd _ _ (by omega), hrd _ _ (by omega), hrd _ _ (by omega), hrd _ _ (by omega), hrd _ _ (by omega), hrd _ _ (by omega)]
        exact a2 c (by omega)
    · rw [hrd _ _ (by omega), hrd _ _ (by omega), hrd _ _ (by omega)]
      exact (a7 p q1).2 j hj
/-- the end of the model's channel -/
def tlC (M : Mem) (this : Nat) (v1 v2 v3 v4 : Int32) : Option (Int32 × Mem) := ck (1 : Int32) 1048 (bd (f_X5_at (0 : Int32) (rd M (this + 1) (1 : Int32).toNatClampNeg)) (fun x24 => ck (x24 + (0 : Int32)) 1048 (nm (wr M (this + 1) (x24 + (0 : Int32)).toNatClampNeg v1) (fun M27 => ck (x24 + (1 : Int32)) 1048 (nm (wr M27 (this + 1) (x24 + (1 : Int32)).toNatClampNeg v2) (fun M29 => ck (x24 + (2 : Int32)) 1048 (nm (wr M29 (this + 1) (x24 + (2 : Int32)).toNatClampNeg v3) (fun M31 => ck (x24 + (3 : Int32)) 1048 (nm (wr M31 (this + 1) (x24 + (3 : Int32)).toNatClampNeg v4) (fun M33 => ck (x24 + (4 : Int32)) 1048 (nm (wr M33 (this + 1) (x24 + (4 : Int32)).toNatClampNeg (0 : Int32)) (fun M35 => ck (x24 + (5 : Int32)) 1048 (nm (wr M35 (this + 1) (x24 + (5 : Int32)).toNatClampNeg (0 : Int32)) (fun M37 => ck (x24 + (6 : Int32)) 1048 (nm (wr M37 (this + 1) (x24 + (6 : Int32)).toNatClampNeg (0 : Int32)) (fun M39 => ck (1 : Int32) 1048 (ck (1 : Int32) 1048 (nm (wr M39 (this + 1) (1 : Int32).toNatClampNeg ((rd M39 (this + 1) (1 : Int32).toNatClampNeg) + (1 : Int32))) (fun M42 => ck (1 : Int32) 1048 (some (((rd M42 (this + 1) (1 : Int32).toNatClampNeg) - (1 : Int32)), M42)))))))))))))))))))))
theorem x5_chan_eq (M : Mem) (this : Nat) (v1 v2 v3 v4 : Int32) : f_X5_channel M this v1 v2 v3 v4 = bd (f_X5_isPart M this v1) (fun x1 => if x1 = (0 : Int32) then (f_X5_channel_L21 M this) else (bd (f_X5_isPart M this v2) (fun x4 => if x4 = (0 : Int32) then (f_X5_channel_L21 M this) else (if v1 = v2 then (f_X5_channel_L21 M this) else (bd (f_X5_in (v3.toInt64) (0 : Int64) (99 : Int64)) (fun x8 => if x8 = (0 : Int32) then (f_X5_channel_L55 M this) else (bd (f_X5_in (v4.toInt64) (1 : Int64) (99 : Int64)) (fun x11 => if x11 = (0 : Int32) then (f_X5_channel_L55 M this) else (if v3 ≤ v4 then (bd (f_X5_wayOf M this v1 v2) (fun x15 => if x15 = (-1 : Int32) then (ck (5 : Int32) 1048 (ck (6 : Int32) 1048 (if ((rd M (this + 1) (5 : Int32).toNatClampNeg) + (rd M (this + 1) (6 : Int32).toNatClampNeg)) ≤ (0 : Int32) then (ck (1 : Int32) 1048 (if (rd M (this + 1) (1 : Int32).toNatClampNeg) = (12 : Int32) then (some ((-1000000004 : Int32), M)) else (tlC M this v1 v2 v3 v4))) else (f_X5_channel_L85 M this)))) else (f_X5_channel_L85 M this))) else (f_X5_channel_L55 M this)))))))))) := rfl
theorem x5_add {M : Mem} {A : Ab} {B : Bg} (h : RM M 0 A B) (hC : nC A < 12) (x1 x2 x3 x4 : Int32) : ∃ M1, tlC M 157 x1 x2 x3 x4 = some (nI (nC A), M1) ∧ RM M1 0 (newC A x1 x2 x3 x4) B ∧ frmR M M1 0 := by
  obtain ⟨M1, e1⟩ : ∃ M1, M1 = wr M (157 + 1) (0 + 28 + 7 * nC A + 0) x1 := ⟨_, rfl⟩
  obtain ⟨M2, e2⟩ : ∃ M2, M2 = wr M1 (157 + 1) (0 + 28 + 7 * nC A + 1) x2 := ⟨_, rfl⟩
  obtain ⟨M3, e3⟩ : ∃ M3, M3 = wr M2 (157 + 1) (0 + 28 + 7 * nC A + 2) x3 := ⟨_, rfl⟩
  obtain ⟨M4, e4⟩ : ∃ M4, M4 = wr M3 (157 + 1) (0 + 28 + 7 * nC A + 3) x4 := ⟨_, rfl⟩
  obtain ⟨M5, e5⟩ : ∃ M5, M5 = wr M4 (157 + 1) (0 + 28 + 7 * nC A + 4) 0 := ⟨_, rfl⟩
  obtain ⟨M6, e6⟩ : ∃ M6, M6 = wr M5 (157 + 1) (0 + 28 + 7 * nC A + 5) 0 := ⟨_, rfl⟩
  obtain ⟨M7, e7⟩ : ∃ M7, M7 = wr M6 (157 + 1) (0 + 28 + 7 * nC A + 6) 0 := ⟨_, rfl⟩
  obtain ⟨M8, e8⟩ : ∃ M8, M8 = wr M7 (157 + 1) (1 : Int32).toNatClampNeg (nI (nC A + 1)) := ⟨_, rfl⟩
  have l1 : (1 : Int32).toNatClampNeg = 1 := rfl
  have r0 : rd M (157 + 1) (1 : Int32).toNatClampNeg = nI (nC A) := h.1.1
  have r7 : rd M7 (157 + 1) (1 : Int32).toNatClampNeg = nI (nC A) := by
    rw [l1] at r0 ⊢
    rw [e7, rd_wr, if_neg (by omega), e6, rd_wr, if_neg (by omega), e5, rd_wr, if_neg (by omega), e4, rd_wr, if_neg (by omega), e3, rd_wr, if_neg (by omega), e2, rd_wr, if_neg (by omega), e1, rd_wr, if_neg (by omega), r0]
  have r8 : rd M8 (157 + 1) (1 : Int32).toNatClampNeg = nI (nC A + 1) := by rw [e8, rd_wr, if_pos ⟨rfl, rfl⟩]
  have e8b := e8
  rw [l1] at e8
  have hrd : ∀ j, j ≠ 1 → (j < 0 + 28 + 7 * nC A ∨ 0 + 28 + 7 * nC A + 7 ≤ j) → rd M8 158 j = rd M 158 j := fun j q1 q2 => by
    rw [e8, rd_wr, if_neg (by omega), e7, rd_wr, if_neg (by omega), e6, rd_wr, if_neg (by omega), e5, rd_wr, if_neg (by omega), e4, rd_wr, if_neg (by omega), e3, rd_wr, if_neg (by omega), e2, rd_wr, if_neg (by omega), e1, rd_wr, if_neg (by omega)]
  have hs : ∀ k, k < 7 → rd M8 158 (0 + 28 + 7 * nC A + k) = valC x1 x2 x3 x4 k := fun k hk => by
    rw [e8, rd_wr, if_neg (by omega)]
    rcases (show k = 0 ∨ k = 1 ∨ k = 2 ∨ k = 3 ∨ k = 4 ∨ k = 5 ∨ k = 6 by omega) with rfl | rfl | rfl | rfl | rfl | rfl | rfl
    · rw [e7, rd_wr, if_neg (by omega), e6, rd_wr, if_neg (by omega), e5, rd_wr, if_neg (by omega), e4, rd_wr, if_neg (by omega), e3, rd_wr, if_neg (by omega), e2, rd_wr, if_neg (by omega), e1, rd_wr, if_pos ⟨rfl, rfl⟩]; rfl
    · rw [e7, rd_wr, if_neg (by omega), e6, rd_wr, if_neg (by omega), e5, rd_wr, if_neg (by omega), e4, rd_wr, if_neg (by omega), e3, rd_wr, if_neg (by omega), e2, rd_wr, if_pos ⟨rfl, rfl⟩]; rfl
    · rw [e7, rd_wr, if_neg (by omega), e6, rd_wr, if_neg (by omega), e5, rd_wr, if_neg (by omega), e4, rd_wr, if_neg (by omega), e3, rd_wr, if_pos ⟨rfl, rfl⟩]; rfl
    · rw [e7, rd_wr, if_neg (by omega), e6, rd_wr, if_neg (by omega), e5, rd_wr, if_neg (by omega), e4, rd_wr, if_pos ⟨rfl, rfl⟩]; rfl
    · rw [e7, rd_wr, if_neg (by omega), e6, rd_wr, if_neg (by omega), e5, rd_wr, if_pos ⟨rfl, rfl⟩]; rfl
    · rw [e7, rd_wr, if_neg (by omega), e6, rd_wr, if_pos ⟨rfl, rfl⟩]; rfl
    · rw [e7, rd_wr, if_pos ⟨rfl, rfl⟩]; rfl
  refine ⟨M8, ?_, ?_, frmR_tr (frmR_w e1 (by omega) (by omega)) (frmR_tr (frmR_w e2 (by omega) (by omega)) (frmR_tr (frmR_w e3 (by omega) (by omega)) (frmR_tr (frmR_w e4 (by omega) (by omega)) (frmR_tr (frmR_w e5 (by omega) (by omega)) (frmR_tr (frmR_w e6 (by omega) (by omega)) (frmR_tr (frmR_w e7 (by omega) (by omega)) (frmR_w e8 (by omega) (by omega))))))))⟩
  · have hc1 : ∀ X : Option (Int32 × Mem), ck (1 : Int32) 1048 X = X := fun X => ck_nI (k := 1) (by omega) (by omega)
    have i0 : nI (0 + 28 + 7 * nC A) + 0 = nI (0 + 28 + 7 * nC A + 0) := nI_add _ 0
    have i1 : nI (0 + 28 + 7 * nC A) + 1 = nI (0 + 28 + 7 * nC A + 1) := nI_add _ 1
    have i2 : nI (0 + 28 + 7 * nC A) + 2 = nI (0 + 28 + 7 * nC A + 2) := nI_add _ 2
    have i3 : nI (0 + 28 + 7 * nC A) + 3 = nI (0 + 28 + 7 * nC A + 3) := nI_add _ 3
    have i4 : nI (0 + 28 + 7 * nC A) + 4 = nI (0 + 28 + 7 * nC A + 4) := nI_add _ 4
    have i5 : nI (0 + 28 + 7 * nC A) + 5 = nI (0 + 28 + 7 * nC A + 5) := nI_add _ 5
    have i6 : nI (0 + 28 + 7 * nC A) + 6 = nI (0 + 28 + 7 * nC A + 6) := nI_add _ 6
    unfold tlC
    rw [hc1, r0, x5_at0, bd_s, i0, i1, i2, i3, i4, i5, i6, ck_nI (by omega) (by omega), cl_nI (by omega), nm_to e1, ck_nI (by omega) (by omega), cl_nI (by omega), nm_to e2, ck_nI (by omega) (by omega), cl_nI (by omega), nm_to e3, ck_nI (by omega) (by omega), cl_nI (by omega), nm_to e4, ck_nI (by omega) (by omega), cl_nI (by omega), nm_to e5, ck_nI (by omega) (by omega), cl_nI (by omega), nm_to e6, ck_nI (by omega) (by omega), cl_nI (by omega), nm_to e7, hc1, hc1, r7, nI_1, nm_to e8b, hc1, r8, nI_pred]
  · obtain ⟨⟨a1, a2⟩, a3, a4, a5, a6, a7, a8, a9⟩ := h
    refine ⟨⟨r8, fun c k q1 q2 => ?_⟩, by rw [hrd _ (by omega) (by omega)]; exact a3, fun k' q1 q2 => by rw [hrd _ (by omega) (by omega)]; exact a4 k' q1 q2, by rw [hrd _ (by omega) (by omega)]; exact a5, by rw [hrd _ (by omega) (by omega)]; exact a6, fun p hp => ?_, by rw [hrd _ (by omega) (by omega)]; exact a8, fun e he => ?_⟩
    · have q1 : c < nC A + 1 := q1
      rw [ch_newC]
      by_cases e : c = nC A
      · rw [if_pos e, e]
        exact hs k q2
      · rw [if_neg e, hrd _ (by omega) (by omega)]
        exact a2 c k (by omega) q2
    · rw [hrd _ (by omega) (by omega), hrd _ (by omega) (by omega), hrd _ (by omega) (by omega)]
      exact a7 p hp
    · rw [hrd _ (by omega) (by omega), hrd _ (by omega) (by omega), hrd _ (by omega) (by omega), hrd _ (by omega) (by omega), hrd _ (by omega) (by omega)]
      exact a9 e he
theorem st_channel : ST_channel INV := by
  intro k M x1 x2 x3 x4 hk hI
  have hI2 := INV_mono k M hI
  obtain ⟨S, B, c, m, hw, hfm, hb, himg⟩ := hI
  have hP := hw.1.1.1
  have hC := hw.1.1.2.1
  unfold f_X4_channel
  rcases twoParts c m hw x1 x2 with ⟨p, q, g1, g2, g3, g4, g5, g6, g7, g8, g9⟩ | ⟨g1, g2⟩
  · have n1 : ¬ (1 : Int32) = 0 := by decide
    have bt : ¬ bI true = 0 := by decide
    have bf : bI false = 0 := rfl
    rw [g7, bd_s, if_pos (show (0 : Int32) = 0 from rfl), x4_out, bd_s]
    by_cases h3 : 0 ≤ x3 ∧ x3 ≤ 99
    · have h3' : ¬ ¬ (0 ≤ x3 ∧ x3 ≤ 99) := fun z => z h3
      rw [decide_eq_false h3', if_pos bf, x4_out, bd_s]
      by_cases h4 : 1 ≤ x4 ∧ x4 ≤ 99
      · have h4' : ¬ ¬ (1 ≤ x4 ∧ x4 ≤ 99) := fun z => z h4
        rw [decide_eq_false h4', if_pos bf]
        by_cases h5 : x3 ≤ x4
        · rw [if_pos h5, x0_find c.1.1 hC, bd_s]
          have hlt : ∀ i, fstIx (isWay S.1 x1 x2) (nC S.1) = some i → i < 2147483648 := fun i z => by
            have := (fstIx_lt z).1
            omega
          have hc5 : ∀ X : Option (Int32 × Mem), ck (5 : Int32) 1048 X = X := fun X => ck_nI (k := 5) (by omega) (by omega)
          have hc6 : ∀ X : Option (Int32 × Mem), ck (6 : Int32) 1048 X = X := fun X => ck_nI (k := 6) (by omega) (by omega)
          have hc1 : ∀ X : Option (Int32 × Mem), ck (1 : Int32) 1048 X = X := fun X => ck_nI (k := 1) (by omega) (by omega)
          by_cases h6 : oI (fstIx (isWay S.1 x1 x2) (nC S.1)) = -1
          · rw [if_pos h6]
            have t3 : f_X3_roundsAndLetGo M (0 + 1) = some (sc S.1 5 + sc S.1 6) := by
              unfold f_X3_roundsAndLetGo
              rw [show rd M (0 + 1) 9 = sc S.1 5 from c.1.2.2.1 5 (by omega) (by omega), show rd M (0 + 1) 10 = sc S.1 6 from c.1.2.2.1 6 (by omega) (by omega)]
            have z7 : rd M (0 + 1 + 1) 7 = nI (nC S.1) := c.1.1.1
            rw [t3, bd_s, z7]
            by_cases h7 : sc S.1 5 + sc S.1 6 ≤ 0
            · rw [if_pos h7]
              by_cases h8 : nC S.1 < 12
              · obtain ⟨M1, a1, a2, a3⟩ := x0_add c.1 h8 x1 x2 x3 x4
                have f1 := frC_w a3
                have m1 := MS_frC m hw.1 f1
                obtain ⟨M2, b1, b2, b3⟩ := x5_add m1.1 h8 x1 x2 x3 x4
                obtain ⟨pr, q1, q2, -⟩ : ∃ j, j ≤ 99 ∧ x3 = nI j ∧ (0 ≤ x3 ∧ x3 ≤ nI 99) := by
                  rcases out_in (n := 99) (by omega) x3 with ⟨z1, -⟩ | z
                  · exact absurd h3 z1
                  · exact z
                obtain ⟨de, q3, q4, q5⟩ := rng1 (n := 99) (by omega) h4
                have hX : WX (newC S.1 x1 x2 x3 x4) := by
                  rw [g1, g2, q2, q5]
                  exact WX_newC hw.1 h8 g3 g4 g5 q1 q3 q4
                have y5 : rd M1 (157 + 1) (5 : Int32).toNatClampNeg = sc S.1 5 := m1.1.2.2.1 5 (by omega) (by omega)
                have y6 : rd M1 (157 + 1) (6 : Int32).toNatClampNeg = sc S.1 6 := m1.1.2.2.1 6 (by omega) (by omega)
                have y1 : rd M1 (157 + 1) (1 : Int32).toNatClampNeg = nI (nC S.1) := m1.1.1.1
                obtain ⟨-, u1⟩ : True ∧ f_X5_isPart M1 157 x1 = some 1 := ⟨trivial, by rw [g1]; exact isPart5_t m1 hw g3⟩
                have u2 : f_X5_isPart M1 157 x2 = some 1 := by rw [g2]; exact isPart5_t m1 hw g4
                refine ⟨nI (nC S.1), M1, M2, ?_, ?_, INV_fin (S := (newC S.1 x1 x2 x3 x4, S.2)) himg ⟨a2, LC_congr c.2 (fun i j z1 z2 => a3.1 i j (by omega))⟩ f1 ⟨b2, LM_congr m1.2.1 (fun i j z => b3.1 i j (by omega)), WE_ev m1.2.2 (fun _ => rfl) rfl⟩ (frD_r b3) ⟨hX, hw.2⟩ hfm (by show nA S.1 ≤ _; omega)⟩
                · rw [if_pos (show nI (nC S.1) < 12 from nI_lt (b := 12) h8 (by omega)), a1, bd2_s]
                · have h12 : ¬ nI (nC S.1) = 12 := fun z => by
                    have := (nI_eq (a := nC S.1) (b := 12) (by omega) (by omega)).mp z
                    omega
                  rw [x5_chan_eq, u1, bd_s, if_neg n1, u2, bd_s, if_neg n1, if_neg g6, x5_inL x3 0 99 (by decide) (by decide), bd_s, decide_eq_true h3, if_neg bt, x5_inL x4 1 99 (by decide) (by decide), bd_s, decide_eq_true h4, if_neg bt, if_pos h5, x5_wayOf m1.1.1 hC, bd_s, if_pos h6, hc5, hc6, y5, y6, if_pos h7, hc1, y1, if_neg h12]
                  exact b1
              · have y5 : rd M (157 + 1) (5 : Int32).toNatClampNeg = sc S.1 5 := m.1.2.2.1 5 (by omega) (by omega)
                have y6 : rd M (157 + 1) (6 : Int32).toNatClampNeg = sc S.1 6 := m.1.2.2.1 6 (by omega) (by omega)
                have y1 : rd M (157 + 1) (1 : Int32).toNatClampNeg = nI (nC S.1) := m.1.1.1
                have h12 : nI (nC S.1) = 12 := by
                  rw [show nC S.1 = 12 by omega]
                  rfl
                rw [if_neg (show ¬ nI (nC S.1) < 12 from nI_nlt (b := 12) (by omega) (by omega))]
                refine ⟨_, M, M, rfl, ?_, hI2⟩
                rw [x5_chan_eq, g8, bd_s, if_neg n1, g9, bd_s, if_neg n1, if_neg g6, x5_inL x3 0 99 (by decide) (by decide), bd_s, decide_eq_true h3, if_neg bt, x5_inL x4 1 99 (by decide) (by decide), bd_s, decide_eq_true h4, if_neg bt, if_pos h5, x5_wayOf m.1.1 hC, bd_s, if_pos h6, hc5, hc6, y5, y6, if_pos h7, hc1, y1, if_pos h12]
            · rw [if_neg h7]
              have y5 : rd M (157 + 1) (5 : Int32).toNatClampNeg = sc S.1 5 := m.1.2.2.1 5 (by omega) (by omega)
              have y6 : rd M (157 + 1) (6 : Int32).toNatClampNeg = sc S.1 6 := m.1.2.2.1 6 (by omega) (by omega)
              refine ⟨_, M, M, rfl, ?_, hI2⟩
              rw [x5_chan_eq, g8, bd_s, if_neg n1, g9, bd_s, if_neg n1, if_neg g6, x5_inL x3 0 99 (by decide) (by decide), bd_s, decide_eq_true h3, if_neg bt, x5_inL x4 1 99 (by decide) (by decide), bd_s, decide_eq_true h4, if_neg bt, if_pos h5, x5_wayOf m.1.1 hC, bd_s, if_pos h6, hc5, hc6, y5, y6, if_neg h7]
              rfl
          · rw [if_neg h6]
            refine ⟨_, M, M, rfl, ?_, hI2⟩
            rw [x5_chan_eq, g8, bd_s, if_neg n1, g9, bd_s, if_neg n1, if_neg g6, x5_inL x3 0 99 (by decide) (by decide), bd_s, decide_eq_true h3, if_neg bt, x5_inL x4 1 99 (by decide) (by decide), bd_s, decide_eq_true h4, if_neg bt, if_pos h5, x5_wayOf m.1.1 hC, bd_s, if_neg h6]
            rfl
        · rw [if_neg h5]
          refine ⟨_, M, M, rfl, ?_, hI2⟩
          rw [x5_chan_eq, g8, bd_s, if_neg n1, g9, bd_s, if_neg n1, if_neg g6, x5_inL x3 0 99 (by decide) (by decide), bd_s, decide_eq_true h3, if_neg bt, x5_inL x4 1 99 (by decide) (by decide), bd_s, decide_eq_true h4, if_neg bt, if_neg h5]
          rfl
      · rw [decide_eq_true h4, if_neg bt]
        refine ⟨_, M, M, rfl, ?_, hI2⟩
        rw [x5_chan_eq, g8, bd_s, if_neg n1, g9, bd_s, if_neg n1, if_neg g6, x5_inL x3 0 99 (by decide) (by decide), bd_s, decide_eq_true h3, if_neg bt, x5_inL x4 1 99 (by decide) (by decide), bd_s, decide_eq_false h4, if_pos bf]
        rfl
    · rw [decide_eq_true h3, if_neg bt]
      refine ⟨_, M, M, rfl, ?_, hI2⟩
      rw [x5_chan_eq, g8, bd_s, if_neg n1, g9, bd_s, if_neg n1, if_neg g6, x5_inL x3 0 99 (by decide) (by decide), bd_s, decide_eq_false h3, if_pos bf]
      rfl
  · rw [g1, bd_s, if_neg (show ¬ (1 : Int32) = 0 from by decide)]
    refine ⟨_, M, M, rfl, ?_, hI2⟩
    rw [x5_chan_eq]
    rcases g2 with a | ⟨a, b⟩ | ⟨a, b, e⟩
    · rw [a, bd_s, if_pos rfl]; rfl
    · rw [a, bd_s, if_neg (by decide), b, bd_s, if_pos rfl]; rfl
    · rw [a, bd_s, if_neg (by decide), b, bd_s, if_neg (by decide), if_pos e]; rfl
