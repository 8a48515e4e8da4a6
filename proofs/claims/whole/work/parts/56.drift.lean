/-! drift: events by lots -/
def nxt (x : Nat) : Nat := x * 16807 % 2147483647
theorem nxt_lt (x : Nat) : nxt x < 2147483647 := Nat.mod_lt _ (by omega)
theorem lN_mulE (a b : Nat) : lN a * lN b = lN (a * b) := (Int64.ofNat_mul a b).symm
theorem lot_step {x : Nat} (h : x < 2147483647) : jreml (lN x * (16807 : Int64)) (2147483647 : Int64) = lN (nxt x) := by
  unfold jreml nxt
  show lN x * lN 16807 - lN x * lN 16807 / lN 2147483647 * lN 2147483647 = _
  rw [lN_mulE, pk_lRem (by omega) (by omega) (by omega)]
theorem x4_lot {x : Nat} (h : x < 2147483647) : f_X4_nextLot (lN x) = some (lN (nxt x)) := by
  unfold f_X4_nextLot nzl
  rw [if_neg (by decide), lot_step h]
theorem lot_rem {x n : Nat} (hx : x < 2147483647) (h0 : 0 < n) (hn : n < 2147483648) : (jreml (lN x) (lN n)).toInt32 = nI (x % n) := by
  have hm := Nat.mod_lt x h0
  unfold jreml
  rw [pk_lRem (by omega) h0 (by omega), ← nI_l (by omega), Int32.toInt32_toInt64]
theorem nzl_ok {α : Type} {n : Nat} {X : Option α} (h0 : 0 < n) (hn : n < 2147483648) : nzl (lN n) X = X := by
  unfold nzl
  rw [if_neg (fun q => by
    have := (lN_eq (a := n) (b := 0) (by omega) (by omega)).mp q
    omega)]
theorem x5_draw {M : Mem} {x n : Nat} (hM : M.2 = lN x) (hx : x < 2147483647) (h0 : 0 < n) (hn : n < 2147483648) : f_X5_draw M 157 (nI n) = some (nI (nxt x % n), wrJ M (lN (nxt x))) := by
  have e : jreml ((rdJ M) * (16807 : Int64)) (2147483647 : Int64) = lN (nxt x) := by
    show jreml (M.2 * (16807 : Int64)) (2147483647 : Int64) = _
    rw [hM, lot_step hx]
  have e2 : rdJ (wrJ M (lN (nxt x))) = lN (nxt x) := rfl
  unfold f_X5_draw
  rw [show (2147483647 : Int64) = lN 2147483647 from rfl, nzl_ok (by omega) (by omega), show lN 2147483647 = (2147483647 : Int64) from rfl, e, nm_to rfl, nI_l hn, nzl_ok h0 hn, e2, lot_rem (nxt_lt x) h0 hn]
abbrev Dr : Type := AR × Nat × Nat
def drp (y : Dr) : Nat := nxt y.2.1 % nP y.1.1
def drt (y : Dr) : Int32 := pt y.1.1 2 (drp y) + 1 + nI (nxt (nxt y.2.1) % 50)
def drv (y : Dr) : Int32 := nI (nxt (nxt (nxt y.2.1)) % 20)
def dr1 (y : Dr) : Dr := if refE y.1.1 (drp y) (drt y) (drv y) = 0 then (tellS y.1 (drp y) (drt y) (drv y), nxt (nxt (nxt y.2.1)), y.2.2 + 1) else (y.1, nxt (nxt (nxt y.2.1)), y.2.2)
def drI (y : Dr) : Nat → Dr
  | 0 => y
  | k + 1 => dr1 (drI y k)
theorem dr1_ok {y : Dr} (hw : WR y.1) (hP : 0 < nP y.1.1) (hb : nA y.1.1 < 2147483647) : WR (dr1 y).1 ∧ nA (dr1 y).1.1 ≤ nA y.1.1 + 1 ∧ nP (dr1 y).1.1 = nP y.1.1 ∧ (dr1 y).2.1 < 2147483647 ∧ sc (dr1 y).1.1 2 = sc y.1.1 2 := by
  unfold dr1
  have hp : drp y < nP y.1.1 := Nat.mod_lt _ hP
  by_cases h : refE y.1.1 (drp y) (drt y) (drv y) = 0
  · rw [if_pos h]
    exact ⟨⟨tell_ok hw.1 hp hb h, hw.2⟩, Nat.le_refl _, rfl, nxt_lt _, rfl⟩
  · rw [if_neg h]
    exact ⟨hw, by show nA y.1.1 ≤ nA y.1.1 + 1; omega, rfl, nxt_lt _, rfl⟩
theorem drI_ok {y : Dr} (hw : WR y.1) (hP : 0 < nP y.1.1) (hx : y.2.1 < 2147483647) : ∀ k, nA y.1.1 + k ≤ 2147483647 → WR (drI y k).1 ∧ nA (drI y k).1.1 ≤ nA y.1.1 + k ∧ nP (drI y k).1.1 = nP y.1.1 ∧ (drI y k).2.1 < 2147483647 ∧ sc (drI y k).1.1 2 = sc y.1.1 2
  | 0, _ => ⟨hw, Nat.le_refl _, rfl, hx, rfl⟩
  | k + 1, hb => by
    obtain ⟨i1, i2, i3, i4, i5⟩ := drI_ok hw hP hx k (by omega)
    obtain ⟨j1, j2, j3, j4, j5⟩ := dr1_ok i1 (by omega) (by omega)
    exact ⟨j1, by show nA (dr1 (drI y k)).1.1 ≤ _; omega, j3.trans i3, j4, j5.trans i5⟩
theorem x4_drLoop {M : Mem} {y : Dr} (c : CS M y.1) (hw : WR y.1) (hP : 0 < nP y.1.1) (hx : y.2.1 < 2147483647) (hy : y.2.2 = 0) {n0 : Nat} (hn : n0 ≤ 20) (hb : nA y.1.1 + 20 ≤ 2147483647) : ∃ M1, f_X4_drift_L49 0 (nI n0) (nI (nP y.1.1)) 1000 M (lN y.2.1) 0 0 = some (nI (drI y n0).2.2, M1) ∧ CS M1 (drI y n0).1 ∧ frC M M1 := by
  have key := loop_st (fun n (s : Mem × Int64 × Int32) k => f_X4_drift_L49 0 (nI n0) (nI (nP y.1.1)) n s.1 s.2.1 s.2.2 k) n0 (fun k s => CS s.1 (drI y k).1 ∧ s.2.1 = lN (drI y k).2.1 ∧ s.2.2 = nI (drI y k).2.2 ∧ frC M s.1) (fun r => r.1 = nI (drI y n0).2.2 ∧ CS r.2 (drI y n0).1 ∧ frC M r.2) (fun n s hN => ?_) (fun n k s hk hN => ?_) 1000 (M, lN y.2.1, 0) (by omega) ⟨c, rfl, by show 0 = nI y.2.2; rw [hy]; rfl, frC_rf⟩
  · obtain ⟨⟨r1, r2⟩, k1, k2, k3, k4⟩ := key
    have k2 : r1 = nI (drI y n0).2.2 := k2
    refine ⟨r2, ?_, k3, k4⟩
    rw [← k2]
    exact k1
  · obtain ⟨N, l, v⟩ := s
    obtain ⟨g, hl, hv, hf⟩ := hN
    refine ⟨(v, N), ?_, hv, g, hf⟩
    show f_X4_drift_L49 0 (nI n0) (nI (nP y.1.1)) (n + 1) N l v (nI n0) = _
    rw [f_X4_drift_L49, if_pos (nI_le (Nat.le_refl _) (by omega))]
  · obtain ⟨N, l, v⟩ := s
    obtain ⟨g, hl, hv, hf⟩ := hN
    have g : CS N (drI y k).1 := g
    have hl : l = lN (drI y k).2.1 := hl
    have hv : v = nI (drI y k).2.2 := hv
    have hf : frC M N := hf
    obtain ⟨i1, i2, i3, i4, i5⟩ := drI_ok hw hP hx k (by omega)
    have hst : drI y (k + 1) = dr1 (drI y k) := rfl
    generalize drI y k = z at g hl hv i1 i2 i3 i4 i5 hst
    have hP6 := i1.1.1.1
    have hp : drp z < nP z.1.1 := Nat.mod_lt _ (by omega)
    have z12 : rd N (0 + 1 + 12) (drp z) = pt z.1.1 2 (drp z) := g.1.2.2.2.2.1 2 (drp z) (by omega) (by omega)
    have e1 : (jreml (lN (nxt z.2.1)) (lN (nP z.1.1))).toInt32 = nI (drp z) := lot_rem (nxt_lt _) (by omega) (by omega)
    have e2 : (jreml (lN (nxt (nxt z.2.1))) (50 : Int64)).toInt32 = nI (nxt (nxt z.2.1) % 50) := lot_rem (n := 50) (nxt_lt _) (by omega) (by omega)
    have e3 : (jreml (lN (nxt (nxt (nxt z.2.1)))) (20 : Int64)).toInt32 = drv z := lot_rem (n := 20) (nxt_lt _) (by omega) (by omega)
    have n50 : ∀ X : Option (Int32 × Mem), nzl (50 : Int64) X = X := fun X => nzl_ok (n := 50) (by omega) (by omega)
    have n20 : ∀ X : Option (Int32 × Mem), nzl (20 : Int64) X = X := fun X => nzl_ok (n := 20) (by omega) (by omega)
    have hgo : f_X4_drift_L49 0 (nI n0) (nI (nP y.1.1)) (n + 1) N l v (nI k) = (if refE z.1.1 (drp z) (drt z) (drv z) = 0 then bd2 (f_X3_tellByHand N (0 + 1) (nI (drp z)) (drt z) (drv z)) (fun _ M18 => f_X4_drift_L49 0 (nI n0) (nI (nP y.1.1)) n M18 (lN (nxt (nxt (nxt z.2.1)))) (nI (z.2.2 + 1)) (nI (k + 1))) else f_X4_drift_L49 0 (nI n0) (nI (nP y.1.1)) n N (lN (nxt (nxt (nxt z.2.1)))) (nI z.2.2) (nI (k + 1))) := by
      rw [f_X4_drift_L49, if_neg (nI_ge hk (by omega)), hl, hv, x4_lot i4, bd_s, ← i3, nI_l (by omega), nzl_ok (by omega) (by omega), e1, nm_to rfl, x4_lot (nxt_lt _), bd_s, ck_nI (by omega) (by omega), n50, cl_nI (by omega), z12, e2, nm_to rfl, x4_lot (nxt_lt _), bd_s, n20, e3, nm_to rfl]
      have hr := x4_ref g i1 hp (drt z) (drv z)
      unfold drt at hr
      rw [hr, bd_s]
      unfold f_X4_drift_L145 nm drt
      rw [nI_1, nI_1]
    show ∃ s' : Mem × Int64 × Int32, (CS s'.1 (drI y (k + 1)).1 ∧ s'.2.1 = lN (drI y (k + 1)).2.1 ∧ s'.2.2 = nI (drI y (k + 1)).2.2 ∧ frC M s'.1) ∧ f_X4_drift_L49 0 (nI n0) (nI (nP y.1.1)) (n + 1) N l v (nI k) = f_X4_drift_L49 0 (nI n0) (nI (nP y.1.1)) n s'.1 s'.2.1 s'.2.2 (nI (k + 1))
    rw [hst, hgo]
    unfold dr1
    by_cases h : refE z.1.1 (drp z) (drt z) (drv z) = 0
    · obtain ⟨N1, a1, a2, a3⟩ := x4_tell g i1 hp h
      refine ⟨(N1, lN (nxt (nxt (nxt z.2.1))), nI (z.2.2 + 1)), ?_, ?_⟩
      · rw [if_pos h]
        exact ⟨a2, rfl, rfl, frC_tr hf a3⟩
      · rw [if_pos h, a1, bd2_s]
    · refine ⟨(N, lN (nxt (nxt (nxt z.2.1))), nI z.2.2), ?_, ?_⟩
      · rw [if_neg h]
        exact ⟨g, rfl, rfl, hf⟩
      · rw [if_neg h]
def frE (M M1 : Mem) : Prop := ∀ i j, (i ≠ 157 ∧ i ≠ 158 ∧ i ≠ 160) ∨ (i = 158 ∧ 262 ≤ j) ∨ (i = 157 ∧ j ≠ 2) → rd M1 i j = rd M i j
theorem frE_tr {M M1 M2 : Mem} (h1 : frE M M1) (h2 : frE M1 M2) : frE M M2 := fun i j h => (h2 i j h).trans (h1 i j h)
theorem x5_drLoop {M : Mem} {y : Dr} {B : Bg} (c : MS M y.1 B) (hw : WR y.1) (hP : 0 < nP y.1.1) (hM : M.2 = lN y.2.1) (hx : y.2.1 < 2147483647) (hy : y.2.2 = 0) {n0 : Nat} (hn : n0 ≤ 20) (hb : nA y.1.1 + 20 ≤ 2147483647) : ∃ M1 B1, f_X5_drift_L50 157 (nI n0) 1000 M 0 0 = some (nI (drI y n0).2.2, M1) ∧ MS M1 (drI y n0).1 B1 ∧ frE M M1 := by
  have key := loop_st (fun n (s : Mem × Int32) k => f_X5_drift_L50 157 (nI n0) n s.1 s.2 k) n0 (fun k s => ∃ B1, MS s.1 (drI y k).1 B1 ∧ s.1.2 = lN (drI y k).2.1 ∧ s.2 = nI (drI y k).2.2 ∧ frE M s.1) (fun r => ∃ B1, r.1 = nI (drI y n0).2.2 ∧ MS r.2 (drI y n0).1 B1 ∧ frE M r.2) (fun n s hN => ?_) (fun n k s hk hN => ?_) 1000 (M, 0) (by omega) ⟨B, c, hM, by show 0 = nI y.2.2; rw [hy]; rfl, fun _ _ _ => rfl⟩
  · obtain ⟨⟨r1, r2⟩, k1, B1, k2, k3, k4⟩ := key
    have k2 : r1 = nI (drI y n0).2.2 := k2
    refine ⟨r2, B1, ?_, k3, k4⟩
    rw [← k2]
    exact k1
  · obtain ⟨N, v⟩ := s
    obtain ⟨B1, g, hl, hv, hf⟩ := hN
    refine ⟨(v, N), ?_, B1, hv, g, hf⟩
    show f_X5_drift_L50 157 (nI n0) (n + 1) N v (nI n0) = _
    rw [f_X5_drift_L50, if_pos (nI_le (Nat.le_refl _) (by omega))]
  · obtain ⟨N, v⟩ := s
    obtain ⟨B1, g, hl, hv, hf⟩ := hN
    have g : MS N (drI y k).1 B1 := g
    have hl : N.2 = lN (drI y k).2.1 := hl
    have hv : v = nI (drI y k).2.2 := hv
    have hf : frE M N := hf
    obtain ⟨i1, i2, i3, i4, i5⟩ := drI_ok hw hP hx k (by omega)
    have hst : drI y (k + 1) = dr1 (drI y k) := rfl
    generalize drI y k = z at g hl hv i1 i2 i3 i4 i5 hst
    have hP6 := i1.1.1.1
    have hp : drp z < nP z.1.1 := Nat.mod_lt _ (by omega)
    obtain ⟨N3, q3⟩ : ∃ N3, N3 = wrJ N (lN (nxt z.2.1)) := ⟨_, rfl⟩
    obtain ⟨N7, q7⟩ : ∃ N7, N7 = wrJ N3 (lN (nxt (nxt z.2.1))) := ⟨_, rfl⟩
    obtain ⟨N11, q11⟩ : ∃ N11, N11 = wrJ N7 (lN (nxt (nxt (nxt z.2.1)))) := ⟨_, rfl⟩
    have d3 : f_X5_draw N 157 (nI (nP z.1.1)) = some (nI (drp z), N3) := by rw [q3]; exact x5_draw hl i4 (by omega) (by omega)
    have d7 : f_X5_draw N3 157 (50 : Int32) = some (nI (nxt (nxt z.2.1) % 50), N7) := by
      rw [q7]; exact x5_draw (n := 50) (by rw [q3]; rfl) (nxt_lt _) (by omega) (by omega)
    have d11 : f_X5_draw N7 157 (20 : Int32) = some (drv z, N11) := by
      rw [q11]; exact x5_draw (n := 20) (by rw [q7]; rfl) (nxt_lt _) (by omega) (by omega)
    have r3 : ∀ i j, rd N3 i j = rd N i j := fun i j => by rw [q3]; rfl
    have r11 : ∀ i j, rd N11 i j = rd N i j := fun i j => by rw [q11, q7, q3]; rfl
    have g11 : MS N11 z.1 B1 := MS_fr g i1.1 (fun j _ => r11 158 j) (fun j => r11 160 j) (r11 157 2)
    have f11 : frE M N11 := frE_tr hf (fun i j _ => r11 i j)
    have z0 : rd N (157 + 1) (0 : Int32).toNatClampNeg = nI (nP z.1.1) := g.1.2.1
    have i22 : (22 : Int32) + nI (drp z) = nI (22 + drp z) := nI_add 22 _
    obtain ⟨-, -, m2⟩ := g.1.2.2.2.2.2.1 (drp z) (by omega)
    rw [Nat.zero_add] at m2
    have m2 : rd N3 (157 + 1) (22 + drp z) = pt z.1.1 2 (drp z) := (r3 158 _).trans m2
    have hc0 : ∀ X : Option (Int32 × Mem), ck (0 : Int32) 1048 X = X := fun X => ck_nI (k := 0) (by omega) (by omega)
    have hgo : f_X5_drift_L50 157 (nI n0) (n + 1) N v (nI k) = bd2 (f_X5_event N11 157 (nI (drp z)) (drt z) (drv z)) (fun x15 M14 => if x15 ≤ (0 : Int32) then f_X5_drift_L50 157 (nI n0) n M14 (nI z.2.2) (nI (k + 1)) else f_X5_drift_L50 157 (nI n0) n M14 (nI (z.2.2 + 1)) (nI (k + 1))) := by
      rw [f_X5_drift_L50, if_neg (nI_ge hk (by omega)), hc0, z0, d3, bd2_s, i22, ck_nI (by omega) (by omega), d7, bd2_s, cl_nI (by omega), m2, nm_to rfl, d11, bd2_s, hv]
      unfold f_X5_drift_L116 nm drt
      rw [nI_1, nI_1, show nI z.2.2 + 0 = nI z.2.2 from Int32.add_zero _]
    show ∃ s' : Mem × Int32, (∃ B2, MS s'.1 (drI y (k + 1)).1 B2 ∧ s'.1.2 = lN (drI y (k + 1)).2.1 ∧ s'.2 = nI (drI y (k + 1)).2.2 ∧ frE M s'.1) ∧ f_X5_drift_L50 157 (nI n0) (n + 1) N v (nI k) = f_X5_drift_L50 157 (nI n0) n s'.1 s'.2 (nI (k + 1))
    rw [hst, hgo]
    unfold dr1
    by_cases h : refE z.1.1 (drp z) (drt z) (drv z) = 0
    · obtain ⟨N1, B2, a1, a2, a3⟩ := x5_evA g11 i1 (by omega) hp h
      have hle := len_le_tot i1.1.2.2.2.2.1 (drp z)
      have ht := tot30 i1.1
      refine ⟨(N1, nI (z.2.2 + 1)), ?_, ?_⟩
      · rw [if_pos h]
        exact ⟨B2, a2, by show N1.2 = _; rw [a3.2, q11]; rfl, rfl, frE_tr f11 a3.1⟩
      · rw [a1, bd2_s, if_neg (nI_nle (by omega) (by omega))]
    · refine ⟨(N11, nI z.2.2), ?_, ?_⟩
      · rw [if_neg h]
        exact ⟨B1, g11, by show N11.2 = _; rw [q11]; rfl, rfl, f11⟩
      · rw [x5_evR g11 i1 hp h, bd2_s, if_pos (refE_neg h)]
theorem INV_finE {k : Nat} {M M1 M2 : Mem} {S : AR} {B : Bg} (hI : IMG (100000 * k) M) (c1 : CS M1 S) (f1 : frC M M1) (c2 : MS M2 S B) (f2 : frE M1 M2) (hw : WR S) (hfm : frmOK S.1) (hb : nA S.1 ≤ 100000 * (k + 1)) : INV (k + 1) M2 :=
  ⟨S, B, CS_fr c1 (fun i j z => f2 i j (by omega)), c2, hw, hfm, hb, IMG_fr hI (by omega) (fun i j z1 z2 => (f2 i j (by omega)).trans (f1.1 i j (by omega))) (fun j z => (f2 158 j (by omega)).trans (f1.1 158 j (by omega))) (fun j => (f2 159 j (by omega)).trans (f1.1 159 j (by omega)))⟩
theorem rng1 {x : Int32} {n : Nat} (hn : n < 2147483648) (h : 1 ≤ x ∧ x ≤ nI n) : ∃ j, 1 ≤ j ∧ j ≤ n ∧ x = nI j := by
  obtain ⟨h1, h2⟩ := h
  rw [Int32.le_iff_toInt_le] at h1
  have e1 : (1 : Int32).toInt = 1 := by decide
  have e0 : (0 : Int32).toInt = 0 := by decide
  have h0 : ¬ x < 0 := by
    rw [Int32.lt_iff_toInt_lt]
    omega
  obtain ⟨j, q1, q2⟩ := nI_of h0
  have q1 : j < 2147483648 := q1
  rw [q2, nI_toInt q1] at h1
  rw [q2, Int32.le_iff_toInt_le, nI_toInt q1, nI_toInt hn] at h2
  exact ⟨j, by omega, by omega, q2⟩
theorem st_drift : ST_drift INV := by
  intro k M x1 x2 hk hI
  have hI2 := INV_mono k M hI
  obtain ⟨S, B, c, m, hw, hfm, hb, himg⟩ := hI
  have hP := hw.1.1.1
  unfold f_X4_drift
  rw [x4_out, bd_s]
  by_cases h1 : 1 ≤ x1 ∧ x1 ≤ 20
  · have h1' : ¬ ¬ (1 ≤ x1 ∧ x1 ≤ 20) := fun q => q h1
    rw [decide_eq_false h1', if_pos (show bI false = 0 from rfl), x4_out, bd_s]
    by_cases h2 : 1 ≤ x2 ∧ x2 ≤ 999999
    · have h2' : ¬ ¬ (1 ≤ x2 ∧ x2 ≤ 999999) := fun q => q h2
      have z5 : rd M (0 + 1) 5 = nI (nP S.1) := c.1.2.1
      have hc0 : ∀ X : Option (Int32 × Mem), ck (0 : Int32) 1048 X = X := fun X => ck_nI (k := 0) (by omega) (by omega)
      rw [decide_eq_false h2', if_pos (show bI false = 0 from rfl), z5, nm_to rfl]
      obtain ⟨n0, a1, a2, rfl⟩ := rng1 (n := 20) (by omega) h1
      obtain ⟨s0, b1, b2, rfl⟩ := rng1 (n := 999999) (by omega) h2
      by_cases h0 : nP S.1 = 0
      · rw [h0, if_neg (show ¬ (1 : Int32) ≤ nI 0 from by decide)]
        refine ⟨_, M, M, rfl, ?_, hI2⟩
        have y0 : rd M (157 + 1) (0 : Int32).toNatClampNeg = nI (nP S.1) := m.1.2.1
        unfold f_X5_drift
        rw [x5_inL (nI n0) 1 20 (by decide) (by decide), bd_s, decide_eq_true h1, if_neg (show ¬ bI true = 0 from by decide), x5_inL (nI s0) 1 999999 (by decide) (by decide), bd_s, decide_eq_true h2, if_neg (show ¬ bI true = 0 from by decide), hc0, y0, h0, if_pos (show nI 0 = 0 from rfl)]
      · rw [if_pos (show (1 : Int32) ≤ nI (nP S.1) from nI_le (a := 1) (by omega) (by omega)), nI_l (by omega), nm_to rfl]
        obtain ⟨M1, c1, c2, c3⟩ := x4_drLoop (y := (S, s0, 0)) c hw (by show 0 < nP S.1; omega) (by show s0 < 2147483647; omega) rfl (n0 := n0) (by omega) (by show nA S.1 + 20 ≤ _; omega)
        have m1 := MS_frC m hw.1 c3
        have y0 : rd M1 (157 + 1) (0 : Int32).toNatClampNeg = nI (nP S.1) := m1.1.2.1
        obtain ⟨M9, q9⟩ : ∃ M9, M9 = wrJ M1 (lN s0) := ⟨_, rfl⟩
        have r9 : ∀ i j, rd M9 i j = rd M1 i j := fun i j => by rw [q9]; rfl
        have m9 : MS M9 S B := MS_fr m1 hw.1 (fun j _ => r9 158 j) (fun j => r9 160 j) (r9 157 2)
        obtain ⟨M2, B2, d1, d2, d3⟩ := x5_drLoop (y := (S, s0, 0)) m9 hw (by show 0 < nP S.1; omega) (by rw [q9]; rfl) (by show s0 < 2147483647; omega) rfl (n0 := n0) (by omega) (by show nA S.1 + 20 ≤ _; omega)
        obtain ⟨i1, i2, i3, i4, i5⟩ := drI_ok (y := (S, s0, 0)) hw (by show 0 < nP S.1; omega) (by show s0 < 2147483647; omega) n0 (by show nA S.1 + n0 ≤ _; omega)
        have i2 : nA (drI (S, s0, 0) n0).1.1 ≤ nA S.1 + n0 := i2
        have i5 : sc (drI (S, s0, 0) n0).1.1 2 = sc S.1 2 := i5
        refine ⟨_, M1, M2, c1, ?_, INV_finE himg c2 c3 d2 (frE_tr (fun i j _ => r9 i j) d3) i1 (by unfold frmOK; rw [i5]; exact hfm) (by omega)⟩
        unfold f_X5_drift
        rw [x5_inL (nI n0) 1 20 (by decide) (by decide), bd_s, decide_eq_true h1, if_neg (show ¬ bI true = 0 from by decide), x5_inL (nI s0) 1 999999 (by decide) (by decide), bd_s, decide_eq_true h2, if_neg (show ¬ bI true = 0 from by decide), hc0, y0, if_neg (nI_ne0 (by omega) (by omega)), nI_l (by omega), nm_to q9]
        exact d1
    · rw [decide_eq_true h2, if_neg (show ¬ bI true = 0 from by decide)]
      refine ⟨_, M, M, rfl, ?_, hI2⟩
      unfold f_X5_drift
      rw [x5_inL x1 1 20 (by decide) (by decide), bd_s, decide_eq_true h1, if_neg (show ¬ bI true = 0 from by decide), x5_inL x2 1 999999 (by decide) (by decide), bd_s, decide_eq_false h2, if_pos (show bI false = 0 from rfl)]
      rfl
  · rw [decide_eq_true h1, if_neg (show ¬ bI true = 0 from by decide)]
    refine ⟨_, M, M, rfl, ?_, hI2⟩
    unfold f_X5_drift
    rw [x5_inL x1 1 20 (by decide) (by decide), bd_s, decide_eq_false h1, if_pos (show bI false = 0 from rfl)]
    rfl
