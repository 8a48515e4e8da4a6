/-! THE RECORD, and a part's work with it -/
abbrev Rc : Type := List Ev
def LC (M : Mem) (R : Rc) : Prop := rd M (0 + 151) 4 = nI R.length ∧ ∀ k, k < R.length → rd M (0 + 151 + 1) k = (Eg R k).1 ∧ rd M (0 + 151 + 2) k = (Eg R k).2.1 ∧ rd M (0 + 151 + 3) k = (Eg R k).2.2.1 ∧ rd M (0 + 151 + 4) k = (Eg R k).2.2.2
def LM (M : Mem) (R : Rc) : Prop := rd M 157 2 = nI R.length ∧ ∀ k, k < R.length → rd M (157 + 3) (4 * k) = (Eg R k).1 ∧ rd M (157 + 3) (4 * k + 1) = (Eg R k).2.1 ∧ rd M (157 + 3) (4 * k + 2) = (Eg R k).2.2.1 ∧ rd M (157 + 3) (4 * k + 3) = (Eg R k).2.2.2
def lgA (R : Rc) (x : Ev) : Rc := if R.length < 200 then R ++ [x] else R
theorem lgA_le {R : Rc} {x : Ev} (h : R.length ≤ 200) : (lgA R x).length ≤ 200 := by
  unfold lgA
  by_cases c : R.length < 200
  · rw [if_pos c, List.length_append]
    show R.length + 1 ≤ 200
    omega
  · rw [if_neg c]; exact h
theorem Eg_app {R : Rc} {x : Ev} {k : Nat} : Eg (R ++ [x]) k = if k < R.length then Eg R k else if k = R.length then x else (0, 0, 0, 0) := by
  unfold Eg
  rw [List.getD_eq_getElem?_getD]
  by_cases c : k < R.length
  · rw [if_pos c, List.getElem?_append_left c, List.getD_eq_getElem?_getD]
  · rw [if_neg c, List.getElem?_append_right (by omega)]
    by_cases e : k = R.length
    · rw [if_pos e, e, Nat.sub_self]
      rfl
    · rw [if_neg e]
      obtain ⟨d, hd⟩ : ∃ d, k - R.length = d + 1 := ⟨k - R.length - 1, by omega⟩
      rw [hd]
      rfl
theorem x1_add {M : Mem} {R : Rc} (h : LC M R) (hl : R.length ≤ 200) (a b c d : Int32) : ∃ M1, f_X1_add M (0 + 151) a b c d = some M1 ∧ LC M1 (lgA R (a, b, c, d)) ∧ frm M M1 151 156 := by
  unfold f_X1_add lgA
  by_cases c9 : R.length < 200
  · have hlt : rd M (0 + 151) 4 < 200 := by rw [h.1]; exact nI_lt (b := 200) c9 (by omega)
    rw [if_pos hlt, if_pos c9]
    obtain ⟨M1, e1⟩ : ∃ M1, M1 = wr M (0 + 151 + 1) R.length a := ⟨_, rfl⟩
    obtain ⟨M2, e2⟩ : ∃ M2, M2 = wr M1 (0 + 151 + 2) R.length b := ⟨_, rfl⟩
    obtain ⟨M3, e3⟩ : ∃ M3, M3 = wr M2 (0 + 151 + 3) R.length c := ⟨_, rfl⟩
    obtain ⟨M4, e4⟩ : ∃ M4, M4 = wr M3 (0 + 151 + 4) R.length d := ⟨_, rfl⟩
    obtain ⟨M5, e5⟩ : ∃ M5, M5 = wr M4 (0 + 151) 4 (nI (R.length + 1)) := ⟨_, rfl⟩
    have r1 : rd M1 (0 + 151) 4 = nI R.length := by rw [e1, rd_wr, if_neg (by omega)]; exact h.1
    have r2 : rd M2 (0 + 151) 4 = nI R.length := by rw [e2, rd_wr, if_neg (by omega)]; exact r1
    have r3 : rd M3 (0 + 151) 4 = nI R.length := by rw [e3, rd_wr, if_neg (by omega)]; exact r2
    have r4 : rd M4 (0 + 151) 4 = nI R.length := by rw [e4, rd_wr, if_neg (by omega)]; exact r3
    refine ⟨M5, ?_, ⟨?_, fun k hk => ?_⟩, frm_tr (frm_w e1 (by omega) (by omega)) (frm_tr (frm_w e2 (by omega) (by omega)) (frm_tr (frm_w e3 (by omega) (by omega)) (frm_tr (frm_w e4 (by omega) (by omega)) (frm_w e5 (by omega) (by omega)))))⟩
    · rw [h.1, ck_nI (by omega) (by omega), cl_nI (by omega), nm_to e1, r1, ck_nI (by omega) (by omega), cl_nI (by omega), nm_to e2, r2, ck_nI (by omega) (by omega), cl_nI (by omega), nm_to e3, r3, ck_nI (by omega) (by omega), cl_nI (by omega), nm_to e4, r4, nI_1, nm_to e5]
    · rw [e5, rd_wr, if_pos ⟨rfl, rfl⟩, List.length_append]
      rfl
    · rw [List.length_append] at hk
      have hk : k < R.length + 1 := hk
      rw [Eg_app]
      by_cases c1 : k < R.length
      · rw [if_pos c1]
        have q := h.2 k c1
        refine ⟨?_, ?_, ?_, ?_⟩
        · rw [e5, rd_wr, if_neg (by omega), e4, rd_wr, if_neg (by omega), e3, rd_wr, if_neg (by omega), e2, rd_wr, if_neg (by omega), e1, rd_wr, if_neg (by omega)]; exact q.1
        · rw [e5, rd_wr, if_neg (by omega), e4, rd_wr, if_neg (by omega), e3, rd_wr, if_neg (by omega), e2, rd_wr, if_neg (by omega), e1, rd_wr, if_neg (by omega)]; exact q.2.1
        · rw [e5, rd_wr, if_neg (by omega), e4, rd_wr, if_neg (by omega), e3, rd_wr, if_neg (by omega), e2, rd_wr, if_neg (by omega), e1, rd_wr, if_neg (by omega)]; exact q.2.2.1
        · rw [e5, rd_wr, if_neg (by omega), e4, rd_wr, if_neg (by omega), e3, rd_wr, if_neg (by omega), e2, rd_wr, if_neg (by omega), e1, rd_wr, if_neg (by omega)]; exact q.2.2.2
      · have ce : k = R.length := by omega
        rw [if_neg c1, if_pos ce, ce]
        refine ⟨?_, ?_, ?_, ?_⟩
        · rw [e5, rd_wr, if_neg (by omega), e4, rd_wr, if_neg (by omega), e3, rd_wr, if_neg (by omega), e2, rd_wr, if_neg (by omega), e1, rd_wr, if_pos ⟨rfl, rfl⟩]
        · rw [e5, rd_wr, if_neg (by omega), e4, rd_wr, if_neg (by omega), e3, rd_wr, if_neg (by omega), e2, rd_wr, if_pos ⟨rfl, rfl⟩]
        · rw [e5, rd_wr, if_neg (by omega), e4, rd_wr, if_neg (by omega), e3, rd_wr, if_pos ⟨rfl, rfl⟩]
        · rw [e5, rd_wr, if_neg (by omega), e4, rd_wr, if_pos ⟨rfl, rfl⟩]
  · have hlt : ¬ rd M (0 + 151) 4 < 200 := by rw [h.1]; exact nI_nlt (b := 200) (by omega) (by omega)
    rw [if_neg hlt, if_neg c9]
    exact ⟨M, rfl, h, frm_rf⟩
theorem LC_congr {M M1 : Mem} {R : Rc} (h : LC M R) (hf : ∀ i j, 151 ≤ i → i < 156 → rd M1 i j = rd M i j) : LC M1 R := by
  refine ⟨by rw [hf _ _ (by omega) (by omega)]; exact h.1, fun k hk => ?_⟩
  rw [hf _ _ (by omega) (by omega), hf _ _ (by omega) (by omega), hf _ _ (by omega) (by omega), hf _ _ (by omega) (by omega)]
  exact h.2 k hk
/-- the class may change its world and the log -/
def frC (M M1 : Mem) : Prop := (∀ i j, (38 ≤ i ∧ i < 151) ∨ i = 0 ∨ 156 ≤ i → rd M1 i j = rd M i j) ∧ M1.2 = M.2
theorem frC_rf {M : Mem} : frC M M := ⟨fun _ _ _ => rfl, rfl⟩
theorem frC_tr {M M1 M2 : Mem} (h1 : frC M M1) (h2 : frC M1 M2) : frC M M2 := ⟨fun i j h => (h2.1 i j h).trans (h1.1 i j h), h2.2.trans h1.2⟩
theorem frC_w {M M1 : Mem} (h : frm M M1 1 38) : frC M M1 := ⟨fun i j q => h.1 i j (by omega), h.2⟩
theorem frC_l {M M1 : Mem} (h : frm M M1 151 156) : frC M M1 := ⟨fun i j q => h.1 i j (by omega), h.2⟩
/-- an abstract state with its record -/
abbrev AR : Type := Ab × Rc
def wkR (S : AR) (p : Nat) : AR := (workA S.1 p, lgA S.2 (nI p, headT (ev S.1 p), headV (ev S.1 p), sc S.1 5 + sc S.1 6))
/-- the class holds S -/
def CS (M : Mem) (S : AR) : Prop := RC M (0 + 1) S.1 ∧ LC M S.2
def WR (S : AR) : Prop := WX S.1 ∧ S.2.length ≤ 200
theorem x4_work {M : Mem} {S : AR} (h : CS M S) (hw : WR S) {p : Nat} (hp : p < 6) (hne : ev S.1 p ≠ []) : ∃ M1, f_X4_workAndWriteDown M 0 (nI p) = some M1 ∧ CS M1 (wkR S p) ∧ frC M M1 := by
  obtain ⟨A, R⟩ := S
  obtain ⟨hRC, hLC⟩ := h
  obtain ⟨hX, hl⟩ := hw
  have hRC : RC M (0 + 1) A := hRC
  have hLC : LC M R := hLC
  have hX : WX A := hX
  have hne : ev A p ≠ [] := hne
  have hwt := hRC.2.2.2.2.2 p hp
  have t1 := x2_firstTime hwt (hX.1.2.2.2 p)
  have t2 := x2_firstValue hwt (hX.1.2.2.2 p)
  have t3 : f_X3_roundsAndLetGo M (0 + 1) = some (sc A 5 + sc A 6) := by
    unfold f_X3_roundsAndLetGo
    rw [show rd M (0 + 1) 9 = sc A 5 from hRC.2.2.1 5 (by omega) (by omega), show rd M (0 + 1) 10 = sc A 6 from hRC.2.2.1 6 (by omega) (by omega)]
  obtain ⟨M8, a1, a2, a3⟩ := x1_add hLC hl (nI p) (headT (ev A p)) (headV (ev A p)) (sc A 5 + sc A 6)
  have g8 : RC M8 (0 + 1) A := RC_frm hRC a3 (by omega)
  cases hv : ev A p with
  | nil => exact absurd hv hne
  | cons x L =>
    obtain ⟨-, h29⟩ := WX_len hX hv
    obtain ⟨M11, b1, b2, b3⟩ := x3_workOnFirst g8 hX.1 hX.2.1 hX.2.2.1 hp h29
    refine ⟨M11, ?_, ⟨b2, LC_congr a2 (fun i j h1 h2 => b3.1 i j (by omega))⟩, frC_tr (frC_l a3) (frC_w b3)⟩
    unfold f_X4_workAndWriteDown
    rw [ck_nI (by omega) (by omega), cl_nI (by omega), t1, bd_s, t2, bd_s, t3, bd_s, a1, bd_s, b1, bd_s]
/-- the model may change its first row, the record -/
def frD (M M1 : Mem) : Prop := (∀ i j, (i ≠ 157 ∧ i ≠ 158 ∧ i ≠ 160) ∨ (i = 158 ∧ 262 ≤ j) ∨ (i = 157 ∧ j ≠ 2) → rd M1 i j = rd M i j) ∧ M1.2 = M.2
theorem frD_rf {M : Mem} : frD M M := ⟨fun _ _ _ => rfl, rfl⟩
theorem frD_tr {M M1 M2 : Mem} (h1 : frD M M1) (h2 : frD M1 M2) : frD M M2 := ⟨fun i j h => (h2.1 i j h).trans (h1.1 i j h), h2.2.trans h1.2⟩
theorem frD_r {M M1 : Mem} (h : frmR M M1 0) : frD M M1 := ⟨fun i j q => h.1 i j (by omega), h.2⟩
/-- the model holds S -/
def MS (M : Mem) (S : AR) (B : Bg) : Prop := RM M 0 S.1 B ∧ LM M S.2 ∧ WE S.1 B
theorem x5_rec {M : Mem} {R : Rc} (h : LM M R) (hl : R.length ≤ 200) (a b c d : Int32) (h5 : rd M (157 + 1) 5 + rd M (157 + 1) 6 = d) (K : Mem → Option Mem) : ∃ M1, (if (200 : Int32) ≤ rd M 157 2 then K M else (ck ((4 : Int32) * (rd M 157 2)) 800 (nm (wr M (157 + 3) ((4 : Int32) * (rd M 157 2)).toNatClampNeg a) (fun M10 => ck (((4 : Int32) * (rd M10 157 2)) + (1 : Int32)) 800 (nm (wr M10 (157 + 3) (((4 : Int32) * (rd M10 157 2)) + (1 : Int32)).toNatClampNeg b) (fun M12 => ck (((4 : Int32) * (rd M12 157 2)) + (2 : Int32)) 800 (nm (wr M12 (157 + 3) (((4 : Int32) * (rd M12 157 2)) + (2 : Int32)).toNatClampNeg c) (fun M14 => ck (5 : Int32) 1048 (ck (6 : Int32) 1048 (ck (((4 : Int32) * (rd M14 157 2)) + (3 : Int32)) 800 (nm (wr M14 (157 + 3) (((4 : Int32) * (rd M14 157 2)) + (3 : Int32)).toNatClampNeg ((rd M14 (157 + 1) (5 : Int32).toNatClampNeg) + (rd M14 (157 + 1) (6 : Int32).toNatClampNeg))) (fun M18 => nm (wr M18 157 2 ((rd M18 157 2) + (1 : Int32))) (fun M19 => K M19))))))))))))) = K M1 ∧ LM M1 (lgA R (a, b, c, d)) ∧ (∀ i j, i ≠ 160 → (i ≠ 157 ∨ j ≠ 2) → rd M1 i j = rd M i j) ∧ M1.2 = M.2 := by
  unfold lgA
  by_cases c9 : R.length < 200
  · have hlt : ¬ (200 : Int32) ≤ rd M 157 2 := by rw [h.1]; exact nI_ge (b := 200) c9 (by omega)
    rw [if_neg hlt, if_pos c9]
    obtain ⟨M1, e1⟩ : ∃ M1, M1 = wr M (157 + 3) (4 * R.length) a := ⟨_, rfl⟩
    obtain ⟨M2, e2⟩ : ∃ M2, M2 = wr M1 (157 + 3) (4 * R.length + 1) b := ⟨_, rfl⟩
    obtain ⟨M3, e3⟩ : ∃ M3, M3 = wr M2 (157 + 3) (4 * R.length + 2) c := ⟨_, rfl⟩
    obtain ⟨M4, e4⟩ : ∃ M4, M4 = wr M3 (157 + 3) (4 * R.length + 3) d := ⟨_, rfl⟩
    obtain ⟨M5, e5⟩ : ∃ M5, M5 = wr M4 157 2 (nI (R.length + 1)) := ⟨_, rfl⟩
    have r1 : rd M1 157 2 = nI R.length := by rw [e1, rd_wr, if_neg (by omega)]; exact h.1
    have r2 : rd M2 157 2 = nI R.length := by rw [e2, rd_wr, if_neg (by omega)]; exact r1
    have r3 : rd M3 157 2 = nI R.length := by rw [e3, rd_wr, if_neg (by omega)]; exact r2
    have r4 : rd M4 157 2 = nI R.length := by rw [e4, rd_wr, if_neg (by omega)]; exact r3
    have hf3 : ∀ j, rd M3 (157 + 1) j = rd M (157 + 1) j := fun j => by rw [e3, rd_wr, if_neg (by omega), e2, rd_wr, if_neg (by omega), e1, rd_wr, if_neg (by omega)]
    have hf : ∀ i j, i ≠ 160 → (i ≠ 157 ∨ j ≠ 2) → rd M5 i j = rd M i j := fun i j h1 h2 => by rw [e5, rd_wr, if_neg (by omega), e4, rd_wr, if_neg (by omega), e3, rd_wr, if_neg (by omega), e2, rd_wr, if_neg (by omega), e1, rd_wr, if_neg (by omega)]
    refine ⟨M5, ?_, ⟨?_, fun k hk => ?_⟩, hf, by rw [e5, e4, e3, e2, e1]; rfl⟩
    · have i4 : (4 : Int32) * nI R.length = nI (4 * R.length) := pk_mul 4 _
      have i41 : nI (4 * R.length) + 1 = nI (4 * R.length + 1) := nI_add _ 1
      have i42 : nI (4 * R.length) + 2 = nI (4 * R.length + 2) := nI_add _ 2
      have i43 : nI (4 * R.length) + 3 = nI (4 * R.length + 3) := nI_add _ 3
      rw [h.1, i4, ck_nI (by omega) (by omega), cl_nI (by omega), nm_to e1, r1, i4, i41, ck_nI (by omega) (by omega), cl_nI (by omega), nm_to e2, r2, i4, i42, ck_nI (by omega) (by omega), cl_nI (by omega), nm_to e3, r3, i4, i43, show (5 : Int32) = nI 5 from rfl, show (6 : Int32) = nI 6 from rfl, ck_nI (by omega) (by omega), ck_nI (by omega) (by omega), ck_nI (by omega) (by omega), cl_nI (by omega), cl_nI (by omega), cl_nI (by omega), hf3, hf3, h5, nm_to e4, r4, nI_1, nm_to e5]
    · rw [e5, rd_wr, if_pos ⟨rfl, rfl⟩, List.length_append]
      rfl
    · rw [List.length_append] at hk
      have hk : k < R.length + 1 := hk
      rw [Eg_app]
      by_cases c1 : k < R.length
      · rw [if_pos c1]
        have q := h.2 k c1
        refine ⟨?_, ?_, ?_, ?_⟩
        · rw [e5, rd_wr, if_neg (by omega), e4, rd_wr, if_neg (by omega), e3, rd_wr, if_neg (by omega), e2, rd_wr, if_neg (by omega), e1, rd_wr, if_neg (by omega)]; exact q.1
        · rw [e5, rd_wr, if_neg (by omega), e4, rd_wr, if_neg (by omega), e3, rd_wr, if_neg (by omega), e2, rd_wr, if_neg (by omega), e1, rd_wr, if_neg (by omega)]; exact q.2.1
        · rw [e5, rd_wr, if_neg (by omega), e4, rd_wr, if_neg (by omega), e3, rd_wr, if_neg (by omega), e2, rd_wr, if_neg (by omega), e1, rd_wr, if_neg (by omega)]; exact q.2.2.1
        · rw [e5, rd_wr, if_neg (by omega), e4, rd_wr, if_neg (by omega), e3, rd_wr, if_neg (by omega), e2, rd_wr, if_neg (by omega), e1, rd_wr, if_neg (by omega)]; exact q.2.2.2
      · have ce : k = R.length := by omega
        rw [if_neg c1, if_pos ce, ce]
        refine ⟨?_, ?_, ?_, ?_⟩
        · rw [e5, rd_wr, if_neg (by omega), e4, rd_wr, if_neg (by omega), e3, rd_wr, if_neg (by omega), e2, rd_wr, if_neg (by omega), e1, rd_wr, if_pos ⟨rfl, rfl⟩]
        · rw [e5, rd_wr, if_neg (by omega), e4, rd_wr, if_neg (by omega), e3, rd_wr, if_neg (by omega), e2, rd_wr, if_pos ⟨rfl, rfl⟩]
        · rw [e5, rd_wr, if_neg (by omega), e4, rd_wr, if_neg (by omega), e3, rd_wr, if_pos ⟨rfl, rfl⟩]
        · rw [e5, rd_wr, if_neg (by omega), e4, rd_wr, if_pos ⟨rfl, rfl⟩]
  · have hlt : (200 : Int32) ≤ rd M 157 2 := by rw [h.1]; exact nI_le (a := 200) (by omega) (by omega)
    rw [if_pos hlt, if_neg c9]
    exact ⟨M, rfl, h, fun _ _ _ _ => rfl, rfl⟩
