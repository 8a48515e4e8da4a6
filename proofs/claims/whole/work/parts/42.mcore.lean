theorem frmR_sw {M : Mem} {r e0 l0 : Nat} (hd : e0 = l0 ∨ e0 + 5 ≤ l0) (h1 : r ≤ e0) (h2 : e0 + 5 ≤ r + 262) : frmR M (swM M e0 l0 5) r :=
  ⟨fun i j h => by rw [rd_swM hd 5 (Nat.le_refl _), if_neg (by omega)], swM_2 5⟩
theorem x5_core {M : Mem} {r : Nat} {A : Ab} {B : Bg} (h : RM M r A B) (hs : WS A) (hc : WCh A) (hE : WE A B) (hr : r ≤ 786) {e p : Nat} {x : Ev} {L : List Ev} (he : e < B.length) (hb : Bt B e = (p, x)) (hv : ev A p = x :: L) : ∃ M1 B1, f_X5_works_L122 M 157 (nI r) (nI (r + 112 + 5 * e)) (nI p) x.1 x.2.2.2 = some M1 ∧ RM M1 r (workA A p) B1 ∧ BgOK B1 (workA A p) ∧ B1.length ≤ B.length ∧ (∀ y ∈ B1, y.1 < nP A) ∧ frmR M M1 r := by
  have hC := hs.2.1
  have hl := hE.2.1
  have hp : p < 6 := by
    have := hE.2.2.1 e he
    rw [hb] at this
    have h6 := hs.1
    have : p < nP A := this
    omega
  obtain ⟨M3, e3⟩ : ∃ M3, M3 = swM M (r + 112 + 5 * e) (r + 112 + 5 * (B.length - 1)) 5 := ⟨_, rfl⟩
  have hdj : r + 112 + 5 * e = r + 112 + 5 * (B.length - 1) ∨ r + 112 + 5 * e + 5 ≤ r + 112 + 5 * (B.length - 1) := by omega
  have f3 : frmR M M3 r := by rw [e3]; exact frmR_sw hdj (by omega) (by omega)
  have r3 : rd M3 (157 + 1) (r + 9) = nI B.length := by
    show rd M3 158 (r + 9) = _
    rw [e3, rd_swM hdj 5 (Nat.le_refl _), if_neg (by omega)]
    exact h.2.2.2.2.2.2.1
  obtain ⟨M4, e4⟩ : ∃ M4, M4 = wr M3 (157 + 1) (r + 9) (nI (B.length - 1)) := ⟨_, rfl⟩
  have g4 : RM M4 r A (rmB B e) := by
    rw [e4, e3]
    exact RM_rm h hC hl he
  obtain ⟨M8, e8⟩ : ∃ M8, M8 = wr M4 (157 + 1) (r + 3) (sc A 3 + 1) := ⟨_, rfl⟩
  have g8 : RM M8 r (stS A 3 (sc A 3 + 1)) (rmB B e) := by
    rw [e8]
    exact RM_S (k := 3) g4 hC (by omega) (by omega)
  obtain ⟨M12, e12⟩ : ∃ M12, M12 = wr M8 (157 + 1) (r + 10 + p) (pt A 0 p + 1) := ⟨_, rfl⟩
  have g12 : RM M12 r (stP (stS A 3 (sc A 3 + 1)) 0 p (pt A 0 p + 1)) (rmB B e) := by
    rw [e12]
    exact RM_P (k := 0) g8 hC (by omega) hp (by omega)
  obtain ⟨M16, e16⟩ : ∃ M16, M16 = wr M12 (157 + 1) (r + 16 + p) (jrem ((31 * pt A 1 p + x.2.2.2) + x.1) 1000003) := ⟨_, rfl⟩
  have g16 : RM M16 r (stP (stP (stS A 3 (sc A 3 + 1)) 0 p (pt A 0 p + 1)) 1 p (jrem ((31 * pt A 1 p + x.2.2.2) + x.1) 1000003)) (rmB B e) := by
    rw [e16]
    exact RM_P (k := 1) g12 hC (by omega) hp (by omega)
  obtain ⟨M18, e18⟩ : ∃ M18, M18 = wr M16 (157 + 1) (r + 22 + p) x.1 := ⟨_, rfl⟩
  have g18 : RM M18 r (stP (stP (stP (stS A 3 (sc A 3 + 1)) 0 p (pt A 0 p + 1)) 1 p (jrem ((31 * pt A 1 p + x.2.2.2) + x.1) 1000003)) 2 p x.1) (rmB B e) := by
    rw [e18]
    exact RM_P (k := 2) g16 hC (by omega) hp (by omega)
  have gw : RM M18 r (work1 A p x L) (rmB B e) := RM_ext g18 rfl rfl rfl rfl (fun _ => rfl) (fun _ _ => rfl) (fun _ _ => rfl)
  have hlen : (rmB B e).length = B.length - 1 := rmB_len (by omega)
  have hl29 : L.length + 1 ≤ 30 := by
    have := hs.2.2.2 p
    rw [hv] at this
    exact this
  have hws : WS (work1 A p x L) := ⟨hs.1, hs.2.1, hs.2.2.1, fun q => by
    show (if q = p then L else ev A q).length ≤ 30
    by_cases c : q = p
    · rw [if_pos c]; omega
    · rw [if_neg c]; exact hs.2.2.2 q⟩
  have hpt : ∀ y ∈ rmB B e, y.1 < nP A := fun y hy => by
    have h1 : y ∈ B := (perm_rmB he).mem_iff.mpr (List.mem_cons_of_mem _ hy)
    obtain ⟨i, q1, q2⟩ := Bt_of_mem h1
    rw [← q2]
    exact hE.2.2.1 i q1
  obtain ⟨M20, B1, t1, t2, t3, t4, t5, t6⟩ := x5_tail gw hws hc (BgOK_rm hE.1 he hb hv) (by omega) hr hpt hp x.1 x.2.2.2
  have hwk : workA A p = sendA (work1 A p x L) p x.1 x.2.2.2 := by
    unfold workA
    rw [hv]
  refine ⟨M20, B1, ?_, by rw [hwk]; exact t2, by rw [hwk]; exact t3, by omega, t5, frmR_tr f3 (frmR_tr (frmR_w e4 (by omega) (by omega)) (frmR_tr (frmR_w e8 (by omega) (by omega)) (frmR_tr (frmR_w e12 (by omega) (by omega)) (frmR_tr (frmR_w e16 (by omega) (by omega)) (frmR_tr (frmR_w e18 (by omega) (by omega)) t6)))))⟩
  have i9 : nI r + 9 = nI (r + 9) := nI_add _ 9
  have i3 : nI r + 3 = nI (r + 3) := nI_add _ 3
  have i112 : nI r + 112 = nI (r + 112) := nI_add _ 112
  have i10 : nI r + 10 + nI p = nI (r + 10 + p) := by rw [show nI r + 10 = nI (r + 10) from nI_add _ 10, nI_add]
  have i16 : nI r + 16 + nI p = nI (r + 16 + p) := by rw [show nI r + 16 = nI (r + 16) from nI_add _ 16, nI_add]
  have i22 : nI r + 22 + nI p = nI (r + 22 + p) := by rw [show nI r + 22 = nI (r + 22) from nI_add _ 22, nI_add]
  have r0 : rd M (157 + 1) (r + 9) = nI B.length := h.2.2.2.2.2.2.1
  have hpred : nI B.length - 1 = nI (B.length - 1) := by
    obtain ⟨q, hq⟩ : ∃ q, B.length = q + 1 := ⟨B.length - 1, by omega⟩
    rw [hq]
    exact nI_pred q
  have r4 : rd M4 (157 + 1) (r + 3) = sc A 3 := g4.2.2.1 3 (by omega) (by omega)
  have r8 : rd M8 (157 + 1) (r + 10 + p) = pt A 0 p := (g8.2.2.2.2.2.1 p hp).1
  have r12 : rd M12 (157 + 1) (r + 16 + p) = pt A 1 p := by
    have q := (g12.2.2.2.2.2.1 p hp).2.1
    rw [pt_stP, if_neg (by omega)] at q
    exact q
  have hz : ¬ (1000003 : Int32) = 0 := by decide
  unfold f_X5_works_L122
  rw [i9, ck_nI (by omega) (by omega), cl_nI (by omega), r0, hpred, i112, show (5 : Int32) = nI 5 from rfl, pk_mul, nI_add, nm_to rfl, x5_swap (by omega) (by omega), ← e3, L176_eq]
  rw [i9, nm_to rfl, ck_nI (by omega) (by omega), ck_nI (by omega) (by omega), cl_nI (by omega), r3, hpred, nm_to e4, i3, nm_to rfl, ck_nI (by omega) (by omega), ck_nI (by omega) (by omega), cl_nI (by omega), r4, nm_to e8, i10, nm_to rfl, ck_nI (by omega) (by omega), ck_nI (by omega) (by omega), cl_nI (by omega), r8, nm_to e12, i16, ck_nI (by omega) (by omega)]
  unfold nz
  rw [if_neg hz, ck_nI (by omega) (by omega), cl_nI (by omega), r12, nm_to e16, i22, ck_nI (by omega) (by omega), cl_nI (by omega), nm_to e18]
  exact t1
