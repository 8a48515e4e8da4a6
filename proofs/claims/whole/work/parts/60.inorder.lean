/-! inOrder -/
def ioN : Nat → Ab → Ab
  | 0, A => A
  | d + 1, A => if totE A = 0 then A else ioN d (workA A (pMin A (nP A)))
theorem x4_ioLoop {p : Nat} {x2 : Int32} : ∀ d k fuel N A, k + d = 300 → d < fuel → RC N (0 + 38) A → WX A → nA A + d ≤ 2147483647 → ∃ N1, f_X4_inOrder_L36 0 (nI p) x2 fuel N (nI k) = f_X4_inOrder_L73 N1 0 (nI p) x2 ∧ RC N1 (0 + 38) (ioN d A) ∧ frm N N1 38 75 := by
  intro d
  induction d with
  | zero =>
    intro k fuel N A hk hf g hX hb
    obtain ⟨m, rfl⟩ : ∃ m, fuel = m + 1 := ⟨fuel - 1, by omega⟩
    refine ⟨N, ?_, g, frm_rf⟩
    rw [f_X4_inOrder_L36, if_pos (show (300 : Int32) ≤ nI k from nI_le (a := 300) (by omega) (by omega))]
  | succ d ih =>
    intro k fuel N A hk hf g hX hb
    obtain ⟨m, rfl⟩ : ∃ m, fuel = m + 1 := ⟨fuel - 1, by omega⟩
    have ht := tot30 hX
    have hP := hX.1.1
    rw [f_X4_inOrder_L36, if_neg (show ¬ (300 : Int32) ≤ nI k from nI_ge (b := 300) (by omega) (by omega)), x3_eventsThatWait g hX.1, bd_s, ioN]
    by_cases c0 : totE A = 0
    · rw [if_pos c0, c0, if_pos (show nI 0 ≤ 0 from Int32.le_refl _)]
      exact ⟨N, rfl, g, frm_rf⟩
    · rw [if_neg c0, if_neg (nI_nle (by omega) (by omega)), x3_partOfLeastTime g hX.1, bd_s]
      obtain ⟨x, L, h1, h2, h3, h4, h5⟩ := least_ne hX (by omega)
      obtain ⟨-, h29⟩ := WX_len hX h1
      obtain ⟨N1, b1, b2, b3⟩ := x3_workOnFirst g hX.1 hX.2.1 hX.2.2.1 (p := pMin A (nP A)) (by omega) h29
      obtain ⟨w1, w2, w3, w4, w5⟩ := WX_work hX (by omega) (pMin A (nP A))
      obtain ⟨N2, c1, c2, c3⟩ := ih (k + 1) m N1 _ (by omega) (by omega) b2 w1 (by omega)
      refine ⟨N2, ?_, c2, frm_tr b3 c3⟩
      rw [b1, bd_s, nm_to (nI_1 _).symm]
      exact c1
-- the model's choice
def bestE (A : Ab) (B : Bg) : Nat → Option Nat
  | 0 => none
  | k + 1 => match pF B k B.length with
    | none => bestE A B k
    | some e => if pLeast A k ≤ headT (ev A k) then bestE A B k else some e
theorem pLeast_le {A : Ab} (hn : WN A) : ∀ k, pLeast A k ≤ 99999999
  | 0 => Int32.le_refl _
  | k + 1 => by
    show (if pLeast A k ≤ headT (ev A k) then pLeast A k else headT (ev A k)) ≤ _
    by_cases c : pLeast A k ≤ headT (ev A k)
    · rw [if_pos c]; exact pLeast_le hn k
    · rw [if_neg c]; exact headT_le hn k
theorem pMin_step {A : Ab} {k : Nat} : pMin A (k + 1) = if headT (ev A (pMin A k)) ≤ headT (ev A k) then pMin A k else k := rfl
theorem pLeast_step {A : Ab} {k : Nat} : pLeast A (k + 1) = if pLeast A k ≤ headT (ev A k) then pLeast A k else headT (ev A k) := rfl
theorem bestE_ok {A : Ab} {B : Bg} (hX : WX A) (hE : WE A B) (k : Nat) : (pLeast A k).toInt < 99999999 → ∃ e x L, bestE A B k = some e ∧ e < B.length ∧ Bt B e = (pMin A k, x) ∧ ev A (pMin A k) = x :: L := by
  have p0 : (pLeast A 0).toInt = 99999999 := nev_toInt
  induction k with
  | zero =>
    intro h
    rw [p0] at h
    omega
  | succ k ih =>
    intro h
    have hn := hX.wn
    rw [pLeast_step] at h
    rcases pF_head hE.1 (hE.2.2.2 k) with ⟨h1, h2⟩ | ⟨x, L, e, h1, h2, h3, h4⟩
    · have hh : headT (ev A k) = 99999999 := by rw [h1]; rfl
      rw [hh, if_pos (pLeast_le hn k)] at h
      obtain ⟨e, x, L, a1, a2, a3, a4⟩ := ih h
      have hm : pMin A (k + 1) = pMin A k := by rw [pMin_step, hh, if_pos (headT_le hn _)]
      rw [hm]
      refine ⟨e, x, L, ?_, a2, a3, a4⟩
      show (match pF B k B.length with
        | none => bestE A B k
        | some e => if pLeast A k ≤ headT (ev A k) then bestE A B k else some e) = some e
      rw [h2]
      exact a1
    · have hb : bestE A B (k + 1) = if pLeast A k ≤ headT (ev A k) then bestE A B k else some e := by
        show (match pF B k B.length with
          | none => bestE A B k
          | some e => if pLeast A k ≤ headT (ev A k) then bestE A B k else some e) = _
        rw [h2]
      have hx : (headT (ev A k)).toInt < 99999999 := by
        rw [h1]
        obtain ⟨g1, g2, g3, g4⟩ := hX.2.2.2.2.2.2.1 k x (by rw [h1]; exact List.mem_cons_self)
        show x.1.toInt < 99999999
        omega
      rw [hb]
      by_cases c : pLeast A k ≤ headT (ev A k)
      · rw [if_pos c] at h ⊢
        obtain ⟨e', x', L', a1, a2, a3, a4⟩ := ih h
        have hk : 0 < k := by
          rcases Nat.eq_zero_or_pos k with z | z
          · rw [z, p0] at h
            omega
          · exact z
        have hm : pMin A (k + 1) = pMin A k := by
          rw [pMin_step, ← pLeast_eq hn k hk, if_pos c]
        rw [hm]
        exact ⟨e', x', L', a1, a2, a3, a4⟩
      · rw [if_neg c]
        have hm : pMin A (k + 1) = k := by
          rcases Nat.eq_zero_or_pos k with z | z
          · rw [z]; exact pMin_1 A
          · rw [pMin_step, ← pLeast_eq hn k z, if_neg c]
        rw [hm]
        exact ⟨e, x, L, rfl, h3, h4, h1⟩
theorem x5_ioPick {M : Mem} {A : Ab} {B : Bg} (h : RM M 262 A B) (hX : WX A) (hE : WE A B) (h0 : rd M 158 0 = nI (nP A)) (k34 : Mem → Int32 → Option (Int32 × Mem)) (v1 v2 v3 : Int32) : f_X5_inOrder_L62 k34 M 157 v1 v2 v3 1000 (-1) 99999999 0 = f_X5_inOrder_L125 k34 M 157 v1 v2 v3 (oE 262 (bestE A B (nP A))) := by
  have hP := hX.1.1
  have hl := hE.2.1
  have hb := h.2.2.2.2.2.2
  have z0 : rd M (157 + 1) (0 : Int32).toNatClampNeg = nI (nP A) := h0
  have hc0 : ∀ X : Option (Int32 × Mem), ck (0 : Int32) 1048 X = X := fun X => ck_nI (k := 0) (by omega) (by omega)
  refine loop_up (fun n (s : Int32 × Int32) k => f_X5_inOrder_L62 k34 M 157 v1 v2 v3 n s.1 s.2 k) (nP A) (fun k => (oE 262 (bestE A B k), pLeast A k)) _ (fun n => ?_) (fun n k hk => ?_) 1000 (by omega)
  · show f_X5_inOrder_L62 k34 M 157 v1 v2 v3 (n + 1) (oE 262 (bestE A B (nP A))) (pLeast A (nP A)) (nI (nP A)) = _
    rw [f_X5_inOrder_L62, hc0, z0, if_pos (nI_le (Nat.le_refl _) (by omega))]
  · show f_X5_inOrder_L62 k34 M 157 v1 v2 v3 (n + 1) (oE 262 (bestE A B k)) (pLeast A k) (nI k) = f_X5_inOrder_L62 k34 M 157 v1 v2 v3 n (oE 262 (bestE A B (k + 1))) (pLeast A (k + 1)) (nI (k + 1))
    have hf : f_X5_firstOf M 157 (262 : Int32) (nI k) = some (oE 262 (pF B k B.length)) := x5_firstOf hb hl (by omega) (hE.six hX.1) (by omega)
    rw [f_X5_inOrder_L62, hc0, z0, if_neg (nI_ge hk (by omega)), hf, bd_s, pLeast_step]
    rcases pF_head hE.1 (hE.2.2.2 k) with ⟨h1, h2⟩ | ⟨x, L, e, h1, h2, h3, h4⟩
    · have hbe : bestE A B (k + 1) = bestE A B k := by
        show (match pF B k B.length with
          | none => bestE A B k
          | some e => if pLeast A k ≤ headT (ev A k) then bestE A B k else some e) = _
        rw [h2]
      have hh : headT (ev A k) = 99999999 := by rw [h1]; rfl
      rw [hbe, hh, if_pos (pLeast_le hX.wn k), h2, oE_none, if_pos rfl]
      unfold f_X5_inOrder_L119 nm
      rw [nI_succ]
    · have hbe : bestE A B (k + 1) = if pLeast A k ≤ headT (ev A k) then bestE A B k else some e := by
        show (match pF B k B.length with
          | none => bestE A B k
          | some e => if pLeast A k ≤ headT (ev A k) then bestE A B k else some e) = _
        rw [h2]
      have e1 := (hb.2 e h3).2.1
      rw [h4] at e1
      have e1 : rd M (157 + 1) (262 + 112 + 5 * e + 1) = headT (ev A k) := by rw [h1]; exact e1
      have i1 : nI (262 + 112 + 5 * e) + 1 = nI (262 + 112 + 5 * e + 1) := nI_add _ 1
      rw [hbe, h2, oE_some, if_neg (nI_m1 (by omega)), i1, ck_nI (by omega) (by omega), cl_nI (by omega), e1]
      by_cases c : pLeast A k ≤ headT (ev A k)
      · rw [if_pos c, if_pos c, if_pos c]
        unfold f_X5_inOrder_L119 nm
        rw [nI_succ]
      · rw [if_neg c, if_neg c, if_neg c, ck_nI (by omega) (by omega), nm_to rfl, oE_some]
        unfold f_X5_inOrder_L119 nm
        rw [nI_succ]
theorem x5_ioLoop {p : Nat} {x2 : Int32} : ∀ d k fuel N A B, k + d = 300 → d < fuel → RM N 262 A B → WE A B → WX A → nA A + d ≤ 2147483647 → rd N 158 0 = nI (nP A) → ∃ N1 B1, f_X5_inOrder_L34 157 (nI p) x2 fuel N (nI k) = f_X5_inOrder_L140 N1 157 (nI p) x2 ∧ RM N1 262 (ioN d A) B1 ∧ frmR N N1 262 := by
  intro d
  induction d with
  | zero =>
    intro k fuel N A B hk hf g hE hX hb h0
    obtain ⟨m, rfl⟩ : ∃ m, fuel = m + 1 := ⟨fuel - 1, by omega⟩
    refine ⟨N, B, ?_, g, frmR_rf⟩
    rw [f_X5_inOrder_L34, if_pos (show (300 : Int32) ≤ nI k from nI_le (a := 300) (by omega) (by omega))]
  | succ d ih =>
    intro k fuel N A B hk hf g hE hX hb h0
    obtain ⟨m, rfl⟩ : ∃ m, fuel = m + 1 := ⟨fuel - 1, by omega⟩
    have ht := tot30 hX
    have hP := hX.1.1
    have hlB := WE_len hE
    have hl30 := hE.2.1
    have z9 : rd N (157 + 1) (271 : Int32).toNatClampNeg = nI (totE A) := by
      rw [← hlB]
      exact g.2.2.2.2.2.2.1
    have hc9 : ∀ X : Option (Int32 × Mem), ck (271 : Int32) 1048 X = X := fun X => ck_nI (k := 271) (by omega) (by omega)
    rw [f_X5_inOrder_L34, if_neg (show ¬ (300 : Int32) ≤ nI k from nI_ge (b := 300) (by omega) (by omega)), hc9, z9, ioN]
    by_cases c0 : totE A = 0
    · rw [if_pos c0, c0, if_pos (show nI 0 ≤ 0 from Int32.le_refl _)]
      exact ⟨N, B, rfl, g, frmR_rf⟩
    · rw [if_neg c0, if_neg (nI_nle (by omega) (by omega)), x5_ioPick g hX hE h0]
      obtain ⟨x, L, h1, h2, h3, h4, h5⟩ := least_ne hX (by omega)
      have hpl : (pLeast A (nP A)).toInt < 99999999 := by
        rw [pLeast_eq hX.wn _ (by omega), h1]
        show x.1.toInt < 99999999
        omega
      obtain ⟨e, x', L', b1, b2, b3, b4⟩ := bestE_ok hX hE (nP A) hpl
      rw [h1] at b4
      cases b4
      obtain ⟨a0, a1, a2, a3, a4⟩ := g.2.2.2.2.2.2.2 e b2
      rw [b3] at a0 a1 a3
      have a0 : rd N (157 + 1) (262 + 112 + 5 * e + 0) = nI (pMin A (nP A)) := a0
      have a1 : rd N (157 + 1) (262 + 112 + 5 * e + 1) = x.1 := a1
      have a3 : rd N (157 + 1) (262 + 112 + 5 * e + 3) = x.2.2.2 := a3
      obtain ⟨N1, B1, c1, c2, c3, c4, c5, c6⟩ := x5_core g hX.1 hX.2.1 hE (by omega) b2 b3 h1
      have c1 : f_X5_works_L122 N 157 262 (nI (262 + 112 + 5 * e)) (nI (pMin A (nP A))) x.1 x.2.2.2 = some N1 := c1
      obtain ⟨w1, w2, w3, w4, w5⟩ := WX_work hX (by omega) (pMin A (nP A))
      obtain ⟨N2, B2, d1, d2, d3⟩ := ih (k + 1) m N1 _ B1 (by omega) (by omega) c2 (WE_work hX (by omega) c3 (by omega) c5) w1 (by omega) (by rw [w3, c6.1 158 0 (by omega)]; exact h0)
      refine ⟨N2, B2, ?_, d2, frmR_tr c6 d3⟩
      have i0 : nI (262 + 112 + 5 * e) + 0 = nI (262 + 112 + 5 * e + 0) := nI_add _ 0
      have i1 : nI (262 + 112 + 5 * e) + 1 = nI (262 + 112 + 5 * e + 1) := nI_add _ 1
      have i3 : nI (262 + 112 + 5 * e) + 3 = nI (262 + 112 + 5 * e + 3) := nI_add _ 3
      have hwk : f_X5_works N 157 262 (nI (262 + 112 + 5 * e)) = some N1 := by
        unfold f_X5_works
        rw [i0, i1, i3, ck_nI (by omega) (by omega), cl_nI (by omega), a0, nm_to rfl, ck_nI (by omega) (by omega), cl_nI (by omega), a1, nm_to rfl, ck_nI (by omega) (by omega), cl_nI (by omega), a3, nm_to rfl, if_neg (show ¬ (262 : Int32) = 0 from by decide)]
        exact c1
      rw [b1, oE_some]
      unfold f_X5_inOrder_L125
      rw [hwk, bd_s, nm_to (nI_1 _).symm]
      exact d1
theorem st_inOrder : ST_inOrder INV := by
  intro k M x1 x2 hk hI
  have hI2 := INV_mono k M hI
  obtain ⟨S, B, c, m, hw, hfm, hb, himg⟩ := hI
  have hP := hw.1.1.1
  have hC := hw.1.1.2.1
  unfold f_X4_inOrder
  rcases isPart_c hw x1 with hx | ⟨p, hp, rfl⟩
  · obtain ⟨a1, a2⟩ := isPart_f c m hw hx
    rw [a1, bd_s, if_neg (show ¬ (1 : Int32) = 0 from by decide)]
    refine ⟨_, M, M, rfl, ?_, hI2⟩
    unfold f_X5_inOrder
    rw [a2, bd_s, if_pos (show (0 : Int32) = 0 from rfl)]
  · obtain ⟨a1, a2⟩ := isPart_t c m hw hp
    rw [a1, bd_s, if_pos (show (0 : Int32) = 0 from rfl), x4_out, bd_s]
    by_cases h1 : 0 ≤ x2 ∧ x2 ≤ 1
    · have h1' : ¬ ¬ (0 ≤ x2 ∧ x2 ≤ 1) := fun q => q h1
      rw [decide_eq_false h1', if_pos (show bI false = 0 from rfl)]
      obtain ⟨M7, b1, b2, b3⟩ := x3_copy (d := 0 + 38) c.1 hw.1.1 (by omega)
      obtain ⟨N1, c1, c2, c3⟩ := x4_ioLoop (p := p) (x2 := x2) 300 0 1000 M7 S.1 (by omega) (by omega) b2 hw.1 (by omega)
      have c1 : f_X4_inOrder_L36 0 (nI p) x2 1000 M7 0 = f_X4_inOrder_L73 N1 0 (nI p) x2 := c1
      have fN : frm M N1 38 75 := frm_tr b3 c3
      have mN : MS N1 S B := MS_fr m hw.1 (fun j _ => fN.1 158 j (by omega)) (fun j => fN.1 160 j (by omega)) (fN.1 157 2 (by omega))
      obtain ⟨K, d1, d2, d3⟩ := x5_copy (M := N1) (r := 0) (r1 := 262) (by omega) (by omega) (by omega)
      have d1 : f_X5_copy N1 157 0 262 = some K := d1
      have gK : RM K 262 S.1 B := RM_shift mN.1 hC m.2.2.2.1 d2
      have k0 : rd K 158 0 = nI (nP S.1) := by
        rw [d3.1 158 0 (by omega)]
        exact mN.1.2.1
      obtain ⟨K1, B1, e1, e2, e3⟩ := x5_ioLoop (p := p) (x2 := x2) 300 0 1000 K S.1 B (by omega) (by omega) gK m.2.2 hw.1 (by omega) k0
      have e1 : f_X5_inOrder_L34 157 (nI p) x2 1000 K 0 = f_X5_inOrder_L140 K1 157 (nI p) x2 := e1
      have fK : frmR N1 K1 262 := frmR_tr d3 e3
      have hfin : INV (k + 1) K1 := by
        refine ⟨S, B, CS_fr c (fun i j z => (fK.1 i j (by omega)).trans (fN.1 i j (by omega))), MS_fr mN hw.1 (fun j z => fK.1 158 j (by omega)) (fun j => fK.1 160 j (by omega)) (fK.1 157 2 (by omega)), hw, hfm, by omega, IMG_fr himg (by omega) (fun i j z1 z2 => (fK.1 i j (by omega)).trans (fN.1 i j (by omega))) (fun j z => (fK.1 158 j (by omega)).trans (fN.1 158 j (by omega))) (fun j => (fK.1 159 j (by omega)).trans (fN.1 159 j (by omega)))⟩
      have aN := isPart5_t mN hw hp
      have y0 : rd N1 (0 + 38 + 10) p = pt (ioN 300 S.1) 0 p := c2.2.2.2.2.1 0 p (by omega) (by omega)
      have y1 : rd N1 (0 + 38 + 11) p = pt (ioN 300 S.1) 1 p := c2.2.2.2.2.1 1 p (by omega) (by omega)
      obtain ⟨w0, w1, -⟩ := e2.2.2.2.2.2.1 p (by omega)
      have w0 : rd K1 (157 + 1) (262 + 10 + p) = pt (ioN 300 S.1) 0 p := w0
      have w1 : rd K1 (157 + 1) (262 + 16 + p) = pt (ioN 300 S.1) 1 p := w1
      have i10 : (262 : Int32) + 10 + nI p = nI (262 + 10 + p) := by rw [show (262 : Int32) + 10 = nI (262 + 10) from nI_add 262 10, nI_add]
      have i16 : (262 : Int32) + 16 + nI p = nI (262 + 16 + p) := by rw [show (262 : Int32) + 16 = nI (262 + 16) from nI_add 262 16, nI_add]
      refine ⟨if x2 = 0 then pt (ioN 300 S.1) 0 p else pt (ioN 300 S.1) 1 p, N1, K1, ?_, ?_, hfin⟩
      · rw [b1, bd_s, c1]
        unfold f_X4_inOrder_L73 f_X4_inOrder_L98
        rw [ck_nI (by omega) (by omega), ck_nI (by omega) (by omega), cl_nI (by omega), y0, y1]
        by_cases z : x2 = 0
        · rw [if_pos z, if_pos z]
        · rw [if_neg z, if_neg z]
      · unfold f_X5_inOrder
        rw [aN, bd_s, if_neg (show ¬ (1 : Int32) = 0 from by decide), x5_inL x2 0 1 (by decide) (by decide), bd_s, decide_eq_true h1, if_neg (show ¬ bI true = 0 from by decide), d1, bd_s, e1]
        unfold f_X5_inOrder_L140 f_X5_inOrder_L158
        rw [i10, i16, ck_nI (by omega) (by omega), ck_nI (by omega) (by omega), cl_nI (by omega), cl_nI (by omega), w0, w1]
        by_cases z : x2 = 0
        · rw [if_pos z, if_pos z]
        · rw [if_neg z, if_neg z]
    · rw [decide_eq_true h1, if_neg (show ¬ bI true = 0 from by decide)]
      refine ⟨_, M, M, rfl, ?_, hI2⟩
      unfold f_X5_inOrder
      rw [a2, bd_s, if_neg (show ¬ (1 : Int32) = 0 from by decide), x5_inL x2 0 1 (by decide) (by decide), bd_s, decide_eq_false h1, if_pos (show bI false = 0 from rfl)]
