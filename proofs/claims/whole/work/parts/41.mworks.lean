/-! works, the model -/
def tl5 (M18 : Mem) (this : Nat) (v1 v3 v4 v5 : Int32) : Option Mem := bd (f_X5_outOf M18 this v1 v3) (fun x19 => if v5 ≤ (0 : Int32) then (f_X5_works_L404 M18 this) else (if x19 ≤ (0 : Int32) then (f_X5_works_L404 M18 this) else (nz x19 (bd (f_X5_outAt M18 this v1 v3 (jrem v5 x19)) (fun x24 => bd (f_X5_at v1 x24) (fun x26 => ck (x26 + (3 : Int32)) 1048 (nm (v4 + (rd M18 (this + 1) (x26 + (3 : Int32)).toNatClampNeg)) (fun x29 => bd (f_X5_at v1 x24) (fun x30 => ck (x30 + (1 : Int32)) 1048 (bd (f_X5_comes M18 this v1 (rd M18 (this + 1) (x30 + (1 : Int32)).toNatClampNeg) x29 x24 (v5 - (1 : Int32))) (fun M33 => bd (f_X5_at v1 x24) (fun x36 => nm (x36 + (5 : Int32)) (fun x38 => ck x38 1048 (ck x38 1048 (nm (wr M33 (this + 1) x38.toNatClampNeg ((rd M33 (this + 1) x38.toNatClampNeg) + (1 : Int32))) (fun M41 => bd (f_X5_at v1 x24) (fun x42 => bd (f_X5_at v1 x24) (fun x44 => ck (x44 + (4 : Int32)) 1048 (if x29 ≤ (rd M41 (this + 1) (x44 + (4 : Int32)).toNatClampNeg) then (bd (f_X5_at v1 x24) (fun x48 => ck (x48 + (4 : Int32)) 1048 (f_X5_works_L403 M41 this (rd M41 (this + 1) (x48 + (4 : Int32)).toNatClampNeg) (x42 + (4 : Int32))))) else (f_X5_works_L403 M41 this x29 (x42 + (4 : Int32))))))))))))))))))))))
theorem L176_eq (M : Mem) (this : Nat) (v1 v3 v4 v5 : Int32) : f_X5_works_L176 M this v1 v3 v4 v5 = nm (v1 + (9 : Int32)) (fun x1 => ck x1 1048 (ck x1 1048 (nm (wr M (this + 1) x1.toNatClampNeg ((rd M (this + 1) x1.toNatClampNeg) - (1 : Int32))) (fun M4 => nm (v1 + (3 : Int32)) (fun x5 => ck x5 1048 (ck x5 1048 (nm (wr M4 (this + 1) x5.toNatClampNeg ((rd M4 (this + 1) x5.toNatClampNeg) + (1 : Int32))) (fun M8 => nm ((v1 + (10 : Int32)) + v3) (fun x9 => ck x9 1048 (ck x9 1048 (nm (wr M8 (this + 1) x9.toNatClampNeg ((rd M8 (this + 1) x9.toNatClampNeg) + (1 : Int32))) (fun M12 => ck ((v1 + (16 : Int32)) + v3) 1048 (nz (1000003 : Int32) (ck ((v1 + (16 : Int32)) + v3) 1048 (nm (wr M12 (this + 1) ((v1 + (16 : Int32)) + v3).toNatClampNeg (jrem ((((31 : Int32) * (rd M12 (this + 1) ((v1 + (16 : Int32)) + v3).toNatClampNeg)) + v5) + v4) (1000003 : Int32))) (fun M16 => ck ((v1 + (22 : Int32)) + v3) 1048 (nm (wr M16 (this + 1) ((v1 + (22 : Int32)) + v3).toNatClampNeg v4) (fun M18 => tl5 M18 this v1 v3 v4 v5)))))))))))))))))) := rfl
theorem RM_ext {M : Mem} {r : Nat} {A A1 : Ab} {B : Bg} (h : RM M r A B) (h1 : nP A1 = nP A) (h2 : nC A1 = nC A) (h3 : nH A1 = nH A) (h4 : nA A1 = nA A) (h5 : ∀ k, sc A1 k = sc A k) (h6 : ∀ c k, ch A1 c k = ch A c k) (h7 : ∀ k p, pt A1 k p = pt A k p) : RM M r A1 B := by
  obtain ⟨⟨a1, a2⟩, a3, a4, a5, a6, a7, a8⟩ := h
  refine ⟨⟨by rw [h2]; exact a1, fun c k q1 q2 => by rw [h6]; exact a2 c k (by rw [← h2]; exact q1) q2⟩, by rw [h1]; exact a3, fun k q1 q2 => by rw [h5]; exact a4 k q1 q2, by rw [h3]; exact a5, by rw [h4]; exact a6, fun p hp => by rw [h7, h7, h7]; exact a7 p hp, a8⟩
theorem bd_s {α β : Type} {x : α} {k : α → Option β} : bd (some x) k = k x := rfl
theorem x5_at (r c : Nat) : f_X5_at (nI r) (nI c) = some (nI (r + 28 + 7 * c)) := by
  unfold f_X5_at
  rw [show (28 : Int32) = nI 28 from rfl, show (7 : Int32) = nI 7 from rfl, nI_add, pk_mul, nI_add]
theorem x5_tail {M : Mem} {r : Nat} {A : Ab} {B : Bg} (h : RM M r A B) (hs : WS A) (hc : WCh A) (hok : BgOK B A) (hl : B.length < 30) (hr : r ≤ 786) (hpt : ∀ x ∈ B, x.1 < nP A) {p : Nat} (hp : p < 6) (t v : Int32) : ∃ M1 B1, tl5 M 157 (nI r) (nI p) t v = some M1 ∧ RM M1 r (sendA A p t v) B1 ∧ BgOK B1 (sendA A p t v) ∧ B1.length ≤ B.length + 1 ∧ (∀ x ∈ B1, x.1 < nP A) ∧ frmR M M1 r := by
  have hC := hs.2.1
  have hP := hs.1
  have hcf : f_X5_outOf M 157 (nI r) (nI p) = some (nI (outN A p)) := x5_outOf h.1 hC hr (nI p)
  have hle : outN A p ≤ nC A := pCnt_le (fun c => decide (ch A c 0 = nI p)) (nC A)
  unfold tl5 sendA
  rw [hcf]
  show ∃ M1 B1, (if v ≤ 0 then f_X5_works_L404 M 157 else if nI (outN A p) ≤ 0 then f_X5_works_L404 M 157 else _) = some M1 ∧ _
  by_cases h1 : v ≤ 0
  · rw [if_pos h1, if_pos h1]
    exact ⟨M, B, rfl, h, hok, by omega, hpt, frmR_rf⟩
  · rw [if_neg h1, if_neg h1]
    by_cases h2 : outN A p = 0
    · rw [if_pos h2, if_pos (by rw [h2]; exact Int32.le_refl _)]
      exact ⟨M, B, rfl, h, hok, by omega, hpt, frmR_rf⟩
    · have h2' : ¬ nI (outN A p) ≤ 0 := nI_nle (by omega) (by omega)
      have h3' : ¬ nI (outN A p) = 0 := nI_ne0 (by omega) (by omega)
      rw [if_neg h2, if_neg h2']
      obtain ⟨v1, v2, v3⟩ := pos_nI h1
      have hr2 : jrem v (nI (outN A p)) = nI (v.toNatClampNeg % outN A p) := by
        conv => lhs; rw [v1]
        exact jrem_nI v2 (by omega) (by omega)
      have hm0 : v.toNatClampNeg % outN A p < outN A p := Nat.mod_lt _ (by omega)
      have hap := x5_outAt h.1 hC hr (nI p) (pl := v.toNatClampNeg % outN A p) (by omega)
      unfold nz
      rw [if_neg h3', hr2, hap]
      cases hf : fstIx (isPlace A (nI p) (v.toNatClampNeg % outN A p)) (nC A) with
      | none =>
        exfalso
        obtain ⟨c, q1, q2, q3⟩ := place_ex hm0
        have := fstIx_noneAll hf c q1
        have q2 := of_decide_eq_true q2
        simp [isPlace, q2, q3] at this
      | some c =>
        obtain ⟨hcl, -⟩ := fstIx_lt hf
        obtain ⟨t1, t2⟩ := hc.to hcl hs
        have b1 := h.1.2 c 1 hcl (by omega)
        have b3 := h.1.2 c 3 hcl (by omega)
        obtain ⟨M33, m1, m2, m3⟩ := x5_comes h hC hl hr (toN A c) (t + ch A c 3) (nI c) (v - 1)
        have r33 : rd M33 158 (r + 28 + 7 * c + 5) = ch A c 5 := m2.1.2 c 5 hcl (by omega)
        obtain ⟨M41, e41⟩ : ∃ M41, M41 = wr M33 158 (r + 28 + 7 * c + 5) (ch A c 5 + 1) := ⟨_, rfl⟩
        have g41 : RM M41 r (stC (stN A (nP A) (nC A) (nH A) (nA A + 1)) c 5 (ch A c 5 + 1)) (B ++ [(toN A c, (t + ch A c 3, nI c, nI (nA A), v - 1))]) := by
          rw [e41]
          exact RM_C m2 hC (by omega) (by omega) rfl
        have r41 : rd M41 158 (r + 28 + 7 * c + 4) = ch A c 4 := by
          have q := g41.1.2 c 4 hcl (by omega)
          rw [ch_stC, if_neg (by omega)] at q
          exact q
        obtain ⟨M42, e42⟩ : ∃ M42, M42 = wr M41 158 (r + 28 + 7 * c + 4) (jmax (ch A c 4) (t + ch A c 3)) := ⟨_, rfl⟩
        have g42 : RM M42 r (comeA A c (t + ch A c 3) (v - 1)) (B ++ [(toN A c, (t + ch A c 3, nI c, nI (nA A), v - 1))]) := by
          rw [e42]
          exact RM_ext (RM_C (k := 4) g41 hC (by omega) (by omega) rfl) rfl rfl rfl rfl (fun _ => rfl) (fun _ _ => rfl) (fun _ _ => rfl)
        refine ⟨M42, _, ?_, g42, BgOK_come hok, by rw [List.length_append]; exact Nat.le_refl _, ?_, frmR_tr m3 (frmR_tr (frmR_w e41 (by omega) (by omega)) (frmR_w e42 (by omega) (by omega)))⟩
        · rw [oI_some]
          have b3' : rd M (157 + 1) (r + 28 + 7 * c + 3) = ch A c 3 := b3
          have b1' : rd M (157 + 1) (r + 28 + 7 * c + 1) = nI (toN A c) := b1.trans t1
          have r33' : rd M33 (157 + 1) (r + 28 + 7 * c + 5) = ch A c 5 := r33
          have r41' : rd M41 (157 + 1) (r + 28 + 7 * c + 4) = ch A c 4 := r41
          have e41' : M41 = wr M33 (157 + 1) (r + 28 + 7 * c + 5) (ch A c 5 + 1) := e41
          have i1 : nI (r + 28 + 7 * c) + 1 = nI (r + 28 + 7 * c + 1) := nI_add _ 1
          have i3 : nI (r + 28 + 7 * c) + 3 = nI (r + 28 + 7 * c + 3) := nI_add _ 3
          have i4 : nI (r + 28 + 7 * c) + 4 = nI (r + 28 + 7 * c + 4) := nI_add _ 4
          have i5 : nI (r + 28 + 7 * c) + 5 = nI (r + 28 + 7 * c + 5) := nI_add _ 5
          rw [bd_s, x5_at, bd_s, i3, ck_nI (by omega) (by omega), cl_nI (by omega), b3', nm_to rfl, bd_s, i1, ck_nI (by omega) (by omega), cl_nI (by omega), b1', m1, bd_s, bd_s, i5, nm_to rfl, ck_nI (by omega) (by omega), ck_nI (by omega) (by omega), cl_nI (by omega), r33', nm_to e41', bd_s, bd_s, i4, ck_nI (by omega) (by omega), cl_nI (by omega), r41']
          by_cases c9 : t + ch A c 3 ≤ ch A c 4
          · have hj : ch A c 4 = jmax (ch A c 4) (t + ch A c 3) := by rw [← jmax_eq, if_pos c9]
            rw [if_pos c9, bd_s, i4, ck_nI (by omega) (by omega), cl_nI (by omega), r41']
            unfold f_X5_works_L403 f_X5_works_L404 nm
            rw [ck_nI (by omega) (by omega), cl_nI (by omega)]
            rw [e42, ← hj]
          · have hj : t + ch A c 3 = jmax (ch A c 4) (t + ch A c 3) := by rw [← jmax_eq, if_neg c9]
            rw [if_neg c9]
            unfold f_X5_works_L403 f_X5_works_L404 nm
            rw [ck_nI (by omega) (by omega), cl_nI (by omega)]
            rw [e42, ← hj]
        · intro x hx
          rcases List.mem_append.mp hx with q | q
          · exact hpt x q
          · rw [List.mem_singleton.mp q]
            exact t2
