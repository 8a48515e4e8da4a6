/-! rings: the code of both -/
theorem loop_eq {σ R : Type} (F : Nat → σ → Int32 → Option R) (G : σ → Option R) (m : Nat) (P : Nat → σ → Prop) (hex : ∀ n s, P m s → F (n + 1) s (nI m) = G s) (hst : ∀ n k s, k < m → P k s → ∃ s', P (k + 1) s' ∧ F (n + 1) s (nI k) = F n s' (nI (k + 1))) : ∀ fuel s, m < fuel → P 0 s → ∃ s', F fuel s (nI 0) = G s' ∧ P m s' := by
  have key : ∀ d k fuel s, k + d = m → d < fuel → P k s → ∃ s', F fuel s (nI k) = G s' ∧ P m s' := by
    intro d
    induction d with
    | zero =>
      intro k fuel s hk hf hp
      obtain ⟨n, rfl⟩ : ∃ n, fuel = n + 1 := ⟨fuel - 1, by omega⟩
      have : k = m := by omega
      subst this
      exact ⟨s, hex n s hp, hp⟩
    | succ d ih =>
      intro k fuel s hk hf hp
      obtain ⟨n, rfl⟩ : ∃ n, fuel = n + 1 := ⟨fuel - 1, by omega⟩
      obtain ⟨s', h1, h2⟩ := hst n k s (by omega) hp
      rw [h2]
      exact ih (k + 1) n s' (by omega) (by omega) h1
  intro fuel s hf hp
  exact key m 0 fuel s (by omega) hf hp
theorem pr_0 {A : Ab} (h : WCh A) {c : Nat} (hc : c < nC A) : (ch A c 2 = 0) ↔ prN A c = 0 := by
  obtain ⟨h1, h2⟩ := WCh_pr h hc
  rw [h1]
  exact nI_eq (b := 0) (by omega) (by omega)
theorem fr_p {A : Ab} (h : WX A) {c p : Nat} (hc : c < nC A) (hp : p < 6) : (ch A c 0 = nI p) ↔ frN A c = p := by
  obtain ⟨h1, h2⟩ := WCh_fr h.2.1 hc h.1
  have hP := h.1.1
  rw [h1]
  exact nI_eq (by omega) (by omega)
theorem x0_zin {M : Mem} {A : Ab} (h : RCh M (0 + 1 + 1) A) (hX : WX A) {p : Nat} (hp : p < 6) (k5 : Int32 → Int32 → Option Int32) (v2 v4 : Int32) (f : Nat → Bool) : f_X0_reachedWithoutPromise_L14 k5 M (0 + 1 + 1) (nI p) v2 v4 1000 (pSet f 6) 0 = f_X0_reachedWithoutPromise_L88 k5 M (0 + 1 + 1) (nI p) v2 (pSet (zin A p f (nC A)) 6) v4 := by
  have hC := hX.1.2.1
  have hP := hX.1.1
  refine loop_up (f_X0_reachedWithoutPromise_L14 k5 M (0 + 1 + 1) (nI p) v2 v4) (nC A) (fun k => pSet (zin A p f k) 6) _ (fun n => ?_) (fun n k hk => ?_) 1000 (by omega)
  · rw [f_X0_reachedWithoutPromise_L14, h.1, if_pos (nI_le (Nat.le_refl _) (by omega))]
  · obtain ⟨b0, b1, b2, -⟩ := h.2 k hk
    obtain ⟨g1, g2⟩ := WCh_fr hX.2.1 hk hX.1
    obtain ⟨t1, t2⟩ := hX.2.1.to hk hX.1
    have hst : zin A p f (k + 1) = zst A p (zin A p f k) k := rfl
    have h53 : ∀ s0 : Int32, f_X0_reachedWithoutPromise_L53 k5 (fun q3 q5 => f_X0_reachedWithoutPromise_L14 k5 M (0 + 1 + 1) (nI p) v2 v4 n q3 q5) M (0 + 1 + 1) (nI p) v2 (pSet (zin A p f k) 6) v4 (nI k) s0 = f_X0_reachedWithoutPromise_L14 k5 M (0 + 1 + 1) (nI p) v2 v4 n (pSet (if prN A k = 0 ∧ ¬ s0 = 0 then adds (zin A p f k) (toN A k) else zin A p f k) 6) (nI (k + 1)) := fun s0 => by
      unfold f_X0_reachedWithoutPromise_L53
      rw [ck_nI (by omega) (by omega), ck_nI (by omega) (by omega), cl_nI (by omega), b2, b1, t1, or_bs (by omega)]
      by_cases c1 : prN A k = 0
      · rw [if_pos ((pr_0 hX.2.1 hk).mpr c1)]
        by_cases c2 : s0 = 0
        · rw [if_pos c2, if_neg (fun q => q.2 c2)]
          unfold f_X0_reachedWithoutPromise_L82 nm
          rw [nI_succ]
        · rw [if_neg c2, if_pos ⟨c1, c2⟩, nm_to rfl]
          unfold f_X0_reachedWithoutPromise_L82 nm
          rw [nI_succ]
      · rw [if_neg (fun q => c1 ((pr_0 hX.2.1 hk).mp q)), if_neg (fun q => c1 q.1)]
        unfold f_X0_reachedWithoutPromise_L82 nm
        rw [nI_succ]
    show f_X0_reachedWithoutPromise_L14 k5 M (0 + 1 + 1) (nI p) v2 v4 (n + 1) (pSet (zin A p f k) 6) (nI k) = f_X0_reachedWithoutPromise_L14 k5 M (0 + 1 + 1) (nI p) v2 v4 n (pSet (zin A p f (k + 1)) 6) (nI (k + 1))
    rw [f_X0_reachedWithoutPromise_L14, h.1, if_neg (nI_ge hk (by omega)), ck_nI (by omega) (by omega), ck_nI (by omega) (by omega), cl_nI (by omega), b0, hst]
    unfold zst f_X0_reachedWithoutPromise_L48
    by_cases c3 : frN A k = p
    · rw [if_pos ((fr_p hX hk hp).mpr c3), h53]
      by_cases c1 : prN A k = 0
      · rw [if_pos ⟨c1, by decide⟩, if_pos ⟨c1, Or.inl c3⟩]
      · rw [if_neg (fun q => c1 q.1), if_neg (fun q => c1 q.1)]
    · rw [if_neg (fun q => c3 ((fr_p hX hk hp).mp q)), g1]
      by_cases c4 : zin A p f k (frN A k) = true
      · rw [if_neg (fun q => by
          have := (and_bs (by omega)).mp q
          rw [c4] at this
          cases this), h53]
        by_cases c1 : prN A k = 0
        · rw [if_pos ⟨c1, by decide⟩, if_pos ⟨c1, Or.inr c4⟩]
        · rw [if_neg (fun q => c1 q.1), if_neg (fun q => c1 q.1)]
      · have c4' : zin A p f k (frN A k) = false := by simpa using c4
        rw [if_pos ((and_bs (by omega)).mpr c4'), h53, if_neg (fun q => q.2 rfl), if_neg (fun q => by
          rcases q.2 with z | z
          · exact c3 z
          · exact c4 z)]
theorem x0_reached {M : Mem} {A : Ab} (h : RCh M (0 + 1 + 1) A) (hX : WX A) {p : Nat} (hp : p < 6) : f_X0_reachedWithoutPromise M (0 + 1 + 1) (nI p) (nI (nP A)) = some (pSet (zout A p (nP A)) 6) := by
  have hP := hX.1.1
  refine loop_up (f_X0_reachedWithoutPromise_L5 M (0 + 1 + 1) (nI p) (nI (nP A))) (nP A) (fun k => pSet (zout A p k) 6) _ (fun n => ?_) (fun n k hk => ?_) 1000 (by omega)
  · rw [f_X0_reachedWithoutPromise_L5, if_pos (nI_le (Nat.le_refl _) (by omega))]
  · rw [f_X0_reachedWithoutPromise_L5, if_neg (nI_ge hk (by omega)), x0_zin h hX hp]
    unfold f_X0_reachedWithoutPromise_L88 nm
    rw [nI_1]
    rfl
def zB (A : Ab) : Bool := pAny (fun q => zout A q (nP A) q) (nP A)
theorem x0_hasRing {M : Mem} {A : Ab} (h : RCh M (0 + 1 + 1) A) (hX : WX A) : f_X0_hasRingWithoutPromise M (0 + 1 + 1) (nI (nP A)) = some (bI (zB A)) := by
  have hP := hX.1.1
  unfold f_X0_hasRingWithoutPromise zB
  rw [← pAny_isSome]
  refine loop_fst (fun n (_ : Unit) k => f_X0_hasRingWithoutPromise_L2 M (0 + 1 + 1) (nI (nP A)) n k) (nP A) (fun _ => ()) (fun q => zout A q (nP A) q) (fun x => some (bI x.isSome)) (fun n _ => ?_) (fun n k hk _ hf => ?_) (fun n k hk _ hf => ?_) 1000 (by omega)
  · show f_X0_hasRingWithoutPromise_L2 M (0 + 1 + 1) (nI (nP A)) (n + 1) (nI (nP A)) = _
    rw [f_X0_hasRingWithoutPromise_L2, if_pos (nI_le (Nat.le_refl _) (by omega))]
    rfl
  · show f_X0_hasRingWithoutPromise_L2 M (0 + 1 + 1) (nI (nP A)) (n + 1) (nI k) = _
    rw [f_X0_hasRingWithoutPromise_L2, if_neg (nI_ge hk (by omega)), x0_reached h hX (by omega), bd_s, if_neg (fun q => by
      have := (and_bs (by omega)).mp q
      rw [hf] at this
      cases this)]
    rfl
  · show f_X0_hasRingWithoutPromise_L2 M (0 + 1 + 1) (nI (nP A)) (n + 1) (nI k) = f_X0_hasRingWithoutPromise_L2 M (0 + 1 + 1) (nI (nP A)) n (nI (k + 1))
    rw [f_X0_hasRingWithoutPromise_L2, if_neg (nI_ge hk (by omega)), x0_reached h hX (by omega), bd_s, if_pos ((and_bs (by omega)).mpr hf)]
    unfold nm
    rw [nI_succ]
-- the class's least way round
def FRc (M : Mem) (e : Nat) (L : Nat → Nat) : Prop := ∀ q, q < 6 → rd M e q = nI (L q)
theorem jmin_nI {a b : Nat} (ha : a < 2147483648) (hb : b < 2147483648) : jmin (nI a) (nI b) = nI (min a b) := by
  unfold jmin
  by_cases c : b < a
  · rw [if_pos (nI_lt c ha), Nat.min_eq_right (by omega)]
  · rw [if_neg (nI_nlt (by omega) hb), Nat.min_eq_left (by omega)]
theorem FRc_wr {M : Mem} {e t v : Nat} {L : Nat → Nat} (h : FRc M e L) : FRc (wr M e t (nI v)) e (fun q => if q = t then v else L q) := fun q hq => by
  rw [rd_wr]
  by_cases c : q = t
  · rw [if_pos ⟨rfl, c⟩]
    show nI v = nI (if q = t then v else L q)
    rw [if_pos c]
  · rw [if_neg (fun z => c z.2)]
    show rd M e q = nI (if q = t then v else L q)
    rw [if_neg c]
    exact h q hq
theorem FRc_ext {M : Mem} {e : Nat} {L L1 : Nat → Nat} (h : FRc M e L) (hl : ∀ q, L1 q = L q) : FRc M e L1 := fun q hq => by rw [hl]; exact h q hq
theorem x4_rin {M : Mem} {A : Ab} (h : RC M (0 + 1) A) (hX : WX A) {p : Nat} (hp : p < 6) {L : Nat → Nat} (hL : ∀ q, L q ≤ 99999999) (hF : FRc M (0 + 156) L) (k32 : Mem → Int32 → Option (Int32 × Mem)) (v3 : Int32) : ∃ N, f_X4_leastPromisesRound_L46 k32 0 (nI p) v3 1000 M 0 = f_X4_leastPromisesRound_L125 k32 N 0 (nI p) v3 ∧ FRc N (0 + 156) (in1 true A p L (nC A)) ∧ frm M N 156 157 := by
  have hC := hX.1.2.1
  have hP := hX.1.1
  refine loop_eq (f_X4_leastPromisesRound_L46 k32 0 (nI p) v3) (fun N => f_X4_leastPromisesRound_L125 k32 N 0 (nI p) v3) (nC A) (fun k N => FRc N (0 + 156) (in1 true A p L k) ∧ frm M N 156 157) (fun n N hN => ?_) (fun n k N hk hN => ?_) 1000 M (by omega) ⟨hF, frm_rf⟩
  · obtain ⟨g, hf⟩ := hN
    have hR := RC_frm h hf (by omega)
    have z7 : rd N (0 + 1 + 1) 7 = nI (nC A) := hR.1.1
    rw [f_X4_leastPromisesRound_L46, z7, if_pos (nI_le (Nat.le_refl _) (by omega))]
  · obtain ⟨g, hf⟩ := hN
    have hR := RC_frm h hf (by omega)
    have z7 : rd N (0 + 1 + 1) 7 = nI (nC A) := hR.1.1
    obtain ⟨b0, b1, b2, -⟩ := hR.1.2 k hk
    obtain ⟨g1, g2⟩ := WCh_fr hX.2.1 hk hX.1
    obtain ⟨t1, t2⟩ := hX.2.1.to hk hX.1
    obtain ⟨p1, p2⟩ := WCh_pr hX.2.1 hk
    have hb : ∀ q, in1 true A p L k q ≤ 99999999 := fun q => Nat.le_trans (in1_le k) (hL q)
    have hb1 := hb (frN A k)
    have hb2 := hb (toN A k)
    have hsv : sv true p (in1 true A p L k) (frN A k) ≤ 99999999 := by
      unfold sv
      by_cases c : true = true ∧ frN A k = p
      · rw [if_pos c]; omega
      · rw [if_neg c]; exact hb1
    obtain ⟨N1, e1⟩ : ∃ N1, N1 = wr N (0 + 156) (toN A k) (nI (min (in1 true A p L k (toN A k)) (sv true p (in1 true A p L k) (frN A k) + prN A k))) := ⟨_, rfl⟩
    have gN : FRc N1 (0 + 156) (in1 true A p L (k + 1)) := by
      rw [e1]
      refine FRc_ext (FRc_wr g) (fun q => ?_)
      show rlx true A p (in1 true A p L k) k q = _
      unfold rlx
      by_cases c : q = toN A k
      · rw [if_pos c, if_pos c, c]
      · rw [if_neg c, if_neg c]
    have h90 : f_X4_leastPromisesRound_L90 k32 (fun Mq q4 => f_X4_leastPromisesRound_L46 k32 0 (nI p) v3 n Mq q4) N 0 (nI p) v3 (nI k) (nI (toN A k)) (nI (sv true p (in1 true A p L k) (frN A k))) = f_X4_leastPromisesRound_L46 k32 0 (nI p) v3 n N1 (nI (k + 1)) := by
      unfold f_X4_leastPromisesRound_L90
      rw [ck_nI (by omega) (by omega), ck_nI (by omega) (by omega), ck_nI (by omega) (by omega), cl_nI (by omega), cl_nI (by omega), g (toN A k) (by omega), b2, p1, nI_add, jmin_nI (by omega) (by omega), nm_to e1]
      unfold nm
      rw [nI_succ]
    refine ⟨N1, ⟨gN, frm_tr hf (frm_w e1 (by omega) (by omega))⟩, ?_⟩
    rw [f_X4_leastPromisesRound_L46, z7, if_neg (nI_ge hk (by omega)), ck_nI (by omega) (by omega), cl_nI (by omega), b0, b1, nm_to rfl, ck_nI (by omega) (by omega), nm_to rfl, t1]
    by_cases c : frN A k = p
    · have hz : sv true p (in1 true A p L k) (frN A k) = 0 := by unfold sv; rw [if_pos ⟨rfl, c⟩]
      rw [hz] at h90
      rw [if_pos ((fr_p hX hk hp).mpr c)]
      exact h90
    · have hz : sv true p (in1 true A p L k) (frN A k) = in1 true A p L k (frN A k) := by unfold sv; rw [if_neg (fun z => c z.2)]
      rw [hz] at h90
      rw [if_neg (fun q => c ((fr_p hX hk hp).mp q)), g1, ck_nI (by omega) (by omega), cl_nI (by omega), g (frN A k) (by omega)]
      exact h90
theorem x4_ringOf {M : Mem} {A : Ab} (h : RC M (0 + 1) A) (hX : WX A) {p : Nat} (hp : p < 6) : ∃ N, f_X4_leastPromisesRound M 0 (nI p) = some (nI (rgC A p), N) ∧ frm M N 156 157 := by
  have hP := hX.1.1
  obtain ⟨M1, a1, a2, a3⟩ := loop_eq (f_X4_leastPromisesRound_L2 0 (nI p)) (fun N => f_X4_leastPromisesRound_L22 N 0 (nI p)) 6 (fun k N => (∀ q, q < k → rd N (0 + 156) q = nI (nevL q)) ∧ frm M N 156 157) (fun n N hN => by rw [f_X4_leastPromisesRound_L2, if_pos (show (6 : Int32) ≤ nI 6 from Int32.le_refl _)]) (fun n k N hk hN => by
    obtain ⟨g, hf⟩ := hN
    obtain ⟨N1, e1⟩ : ∃ N1, N1 = wr N (0 + 156) k (99999999 : Int32) := ⟨_, rfl⟩
    refine ⟨N1, ⟨fun q hq => ?_, frm_tr hf (frm_w e1 (by omega) (by omega))⟩, ?_⟩
    · rw [e1, rd_wr]
      by_cases c : q = k
      · rw [if_pos ⟨rfl, c⟩]; rfl
      · rw [if_neg (fun z => c z.2)]; exact g q (by omega)
    · rw [f_X4_leastPromisesRound_L2, if_neg (show ¬ (6 : Int32) ≤ nI k from nI_ge (b := 6) hk (by omega)), ck_nI (by omega) (by omega), cl_nI (by omega), nm_to e1]
      unfold nm
      rw [nI_succ]) 1000 M (by omega) ⟨fun q hq => absurd hq (Nat.not_lt_zero q), frm_rf⟩
  have hsnd : ∀ k q, out1 true A p nevL k q ≤ 99999999 := fun k q => (out1_snd (nevL_snd (A := A) (p := p)) k q).1
  have key := loop_ct (f_X4_leastPromisesRound_L32 0 (nI p)) (nP A) (fun k N => FRc N (0 + 156) (out1 true A p nevL k) ∧ frm M N 156 157) (fun r => r.1 = nI (rgC A p) ∧ frm M r.2 156 157) (fun n N hN => ?_) (fun n k N hk hN ih => ?_) 1000 M1 (by omega) ⟨a2, a3⟩
  · obtain ⟨⟨r1, r2⟩, k1, k2, k3⟩ := key
    have k2 : r1 = nI (rgC A p) := k2
    refine ⟨r2, ?_, k3⟩
    rw [← k2]
    exact a1.trans k1
  · obtain ⟨g, hf⟩ := hN
    have z5 : rd N (0 + 1) 5 = nI (nP A) := (RC_frm h hf (by omega)).2.1
    refine ⟨(nI (rgC A p), N), ?_, rfl, hf⟩
    rw [f_X4_leastPromisesRound_L32, z5, if_pos (nI_le (Nat.le_refl _) (by omega)), ck_nI (by omega) (by omega), cl_nI (by omega), g p hp]
    rfl
  · obtain ⟨g, hf⟩ := hN
    have hR := RC_frm h hf (by omega)
    have z5 : rd N (0 + 1) 5 = nI (nP A) := hR.2.1
    obtain ⟨N1, b1, b2, b3⟩ := x4_rin hR hX hp (hsnd k) g (fun Mq q3 => f_X4_leastPromisesRound_L32 0 (nI p) n Mq q3) (nI k)
    rw [f_X4_leastPromisesRound_L32, z5, if_neg (nI_ge hk (by omega)), b1]
    unfold f_X4_leastPromisesRound_L125
    rw [nm_to (nI_1 _).symm]
    exact ih N1 ⟨b2, frm_tr hf b3⟩
-- the model's
theorem RM_far {M N : Mem} {A : Ab} {B : Bg} (h : RM M 0 A B) (hC : nC A ≤ 12) (hl : B.length ≤ 30) (hf : frm M N 161 162) : RM N 0 A B := RM_congr h hC hl (fun j _ _ => hf.1 158 j (by omega))
theorem x5_rin {M : Mem} {A : Ab} {B : Bg} (h : RM M 0 A B) (hX : WX A) (hl : B.length ≤ 30) {p : Nat} {L : Nat → Nat} (hL : ∀ q, L q ≤ 99999999) (hF : FRc M (157 + 4) L) (k33 : Mem → Int32 → Option (Int32 × Mem)) (v1 v2 : Int32) : ∃ N, f_X5_ringOf_L41 k33 157 v1 v2 1000 M 0 = f_X5_ringOf_L134 k33 N 157 v1 v2 ∧ FRc N (157 + 4) (in1 false A p L (nC A)) ∧ frm M N 161 162 := by
  have hC := hX.1.2.1
  have hP := hX.1.1
  have hc1 : ∀ X : Option (Int32 × Mem), ck (1 : Int32) 1048 X = X := fun X => ck_nI (k := 1) (by omega) (by omega)
  refine loop_eq (f_X5_ringOf_L41 k33 157 v1 v2) (fun N => f_X5_ringOf_L134 k33 N 157 v1 v2) (nC A) (fun k N => FRc N (157 + 4) (in1 false A p L k) ∧ frm M N 161 162) (fun n N hN => ?_) (fun n k N hk hN => ?_) 1000 M (by omega) ⟨hF, frm_rf⟩
  · obtain ⟨g, hf⟩ := hN
    have z1 : rd N (157 + 1) (1 : Int32).toNatClampNeg = nI (nC A) := (RM_far h hC hl hf).1.1
    rw [f_X5_ringOf_L41, hc1, z1, if_pos (nI_le (Nat.le_refl _) (by omega))]
  · obtain ⟨g, hf⟩ := hN
    have hR := RM_far h hC hl hf
    have z1 : rd N (157 + 1) (1 : Int32).toNatClampNeg = nI (nC A) := hR.1.1
    obtain ⟨g1, g2⟩ := WCh_fr hX.2.1 hk hX.1
    obtain ⟨t1, t2⟩ := hX.2.1.to hk hX.1
    obtain ⟨p1, p2⟩ := WCh_pr hX.2.1 hk
    have b0 : rd N (157 + 1) (0 + 28 + 7 * k + 0) = nI (frN A k) := (hR.1.2 k 0 hk (by omega)).trans g1
    have b1 : rd N (157 + 1) (0 + 28 + 7 * k + 1) = nI (toN A k) := (hR.1.2 k 1 hk (by omega)).trans t1
    have b2 : rd N (157 + 1) (0 + 28 + 7 * k + 2) = nI (prN A k) := (hR.1.2 k 2 hk (by omega)).trans p1
    have i0 : nI (0 + 28 + 7 * k) + 0 = nI (0 + 28 + 7 * k + 0) := nI_add _ 0
    have i1 : nI (0 + 28 + 7 * k) + 1 = nI (0 + 28 + 7 * k + 1) := nI_add _ 1
    have i2 : nI (0 + 28 + 7 * k) + 2 = nI (0 + 28 + 7 * k + 2) := nI_add _ 2
    have hb : ∀ q, in1 false A p L k q ≤ 99999999 := fun q => Nat.le_trans (in1_le k) (hL q)
    have hb1 := hb (frN A k)
    have hb2 := hb (toN A k)
    obtain ⟨N1, e1⟩ : ∃ N1, N1 = wr N (157 + 4) (toN A k) (nI (min (in1 false A p L k (toN A k)) (in1 false A p L k (frN A k) + prN A k))) := ⟨_, rfl⟩
    have gN : FRc N1 (157 + 4) (in1 false A p L (k + 1)) := by
      rw [e1]
      refine FRc_ext (FRc_wr g) (fun q => ?_)
      show rlx false A p (in1 false A p L k) k q = _
      have hz : sv false p (in1 false A p L k) (frN A k) = in1 false A p L k (frN A k) := by unfold sv; rw [if_neg (fun z => by cases z.1)]
      unfold rlx
      rw [hz]
      by_cases c : q = toN A k
      · rw [if_pos c, if_pos c, c]
      · rw [if_neg c, if_neg c]
    have h127 : ∀ s0 : Int32, s0 = nI (min (in1 false A p L k (toN A k)) (in1 false A p L k (frN A k) + prN A k)) → f_X5_ringOf_L127 k33 (fun Mq q3 => f_X5_ringOf_L41 k33 157 v1 v2 n Mq q3) N 157 v1 v2 (nI k) s0 (nI (toN A k)) = f_X5_ringOf_L41 k33 157 v1 v2 n N1 (nI (k + 1)) := fun s0 hs => by
      unfold f_X5_ringOf_L127
      rw [hs, ck_nI (by omega) (by omega), cl_nI (by omega), nm_to e1]
      unfold nm
      rw [nI_succ]
    refine ⟨N1, ⟨gN, frm_tr hf (frm_w e1 (by omega) (by omega))⟩, ?_⟩
    rw [f_X5_ringOf_L41, hc1, z1, if_neg (nI_ge hk (by omega)), x5_at0, bd_s, i0, ck_nI (by omega) (by omega), cl_nI (by omega), b0, ck_nI (by omega) (by omega), bd_s, i2, ck_nI (by omega) (by omega), cl_nI (by omega), cl_nI (by omega), b2, g (frN A k) (by omega), nI_add, nm_to rfl, bd_s, i1, ck_nI (by omega) (by omega), cl_nI (by omega), b1, nm_to rfl, ck_nI (by omega) (by omega), cl_nI (by omega), g (toN A k) (by omega)]
    by_cases c : in1 false A p L k (toN A k) ≤ in1 false A p L k (frN A k) + prN A k
    · rw [if_pos (nI_le c (by omega)), ck_nI (by omega) (by omega)]
      exact h127 _ (by rw [Nat.min_eq_left c])
    · rw [if_neg (nI_ge (by omega) (by omega))]
      exact h127 _ (by rw [Nat.min_eq_right (by omega)])
theorem x5_best {M : Mem} {A : Ab} {B : Bg} (h : RM M 0 A B) (hX : WX A) {p : Nat} (hp : p < 6) {F : Nat → Nat} (hL : ∀ q, F q ≤ 99999999) (hF : FRc M (157 + 4) F) : f_X5_ringOf_L140 M 157 (nI p) = some (oI (bstL A p F (nC A)), M) := by
  have hC := hX.1.2.1
  have hP := hX.1.1
  have hc1 : ∀ X : Option (Int32 × Mem), ck (1 : Int32) 1048 X = X := fun X => ck_nI (k := 1) (by omega) (by omega)
  have z1 : rd M (157 + 1) (1 : Int32).toNatClampNeg = nI (nC A) := h.1.1
  have hbnd : ∀ n s, n ≤ nC A → bstL A p F n = some s → s ≤ 100000098 := fun n s hn hs => by
    obtain ⟨⟨c, a1, a2, a3, a4⟩, -⟩ := bstL_some hs
    have := (WCh_pr hX.2.1 (show c < nC A by omega)).2
    omega
  refine loop_up (f_X5_ringOf_L144 M 157 (nI p)) (nC A) (fun k => oI (bstL A p F k)) _ (fun n => ?_) (fun n k hk => ?_) 1000 (by omega)
  · rw [f_X5_ringOf_L144, hc1, z1, if_pos (nI_le (Nat.le_refl _) (by omega))]
  · obtain ⟨g1, g2⟩ := WCh_fr hX.2.1 hk hX.1
    obtain ⟨t1, t2⟩ := hX.2.1.to hk hX.1
    obtain ⟨p1, p2⟩ := WCh_pr hX.2.1 hk
    have b0 : rd M (157 + 1) (0 + 28 + 7 * k + 0) = nI (frN A k) := (h.1.2 k 0 hk (by omega)).trans g1
    have b1 : rd M (157 + 1) (0 + 28 + 7 * k + 1) = nI (toN A k) := (h.1.2 k 1 hk (by omega)).trans t1
    have b2 : rd M (157 + 1) (0 + 28 + 7 * k + 2) = nI (prN A k) := (h.1.2 k 2 hk (by omega)).trans p1
    have i0 : nI (0 + 28 + 7 * k) + 0 = nI (0 + 28 + 7 * k + 0) := nI_add _ 0
    have i1 : nI (0 + 28 + 7 * k) + 1 = nI (0 + 28 + 7 * k + 1) := nI_add _ 1
    have i2 : nI (0 + 28 + 7 * k) + 2 = nI (0 + 28 + 7 * k + 2) := nI_add _ 2
    have hb1 := hL (frN A k)
    have hst : bstL A p F (k + 1) = if toN A k = p ∧ F (frN A k) < 99999999 then (match bstL A p F k with
      | none => some (F (frN A k) + prN A k)
      | some b => if b ≤ F (frN A k) + prN A k then some b else some (F (frN A k) + prN A k)) else bstL A p F k := rfl
    show f_X5_ringOf_L144 M 157 (nI p) (n + 1) (oI (bstL A p F k)) (nI k) = f_X5_ringOf_L144 M 157 (nI p) n (oI (bstL A p F (k + 1))) (nI (k + 1))
    rw [f_X5_ringOf_L144, hc1, z1, if_neg (nI_ge hk (by omega)), x5_at0, bd_s, i0, ck_nI (by omega) (by omega), cl_nI (by omega), b0, ck_nI (by omega) (by omega), cl_nI (by omega), hF (frN A k) (by omega), nm_to rfl, bd_s, i1, ck_nI (by omega) (by omega), cl_nI (by omega), b1, hst]
    by_cases c1 : toN A k = p
    · rw [if_pos ((nI_eq (by omega) (by omega)).mpr c1)]
      by_cases c2 : F (frN A k) < 99999999
      · rw [if_pos (show toN A k = p ∧ F (frN A k) < 99999999 from ⟨c1, c2⟩), if_neg (show ¬ (99999999 : Int32) ≤ nI (F (frN A k)) from nI_ge (b := 99999999) c2 (by omega)), bd_s, i2, ck_nI (by omega) (by omega), cl_nI (by omega), b2, nI_add, nm_to rfl]
        cases hb : bstL A p F k with
        | none =>
          rw [oI_none, if_pos rfl]
          unfold f_X5_ringOf_L224 f_X5_ringOf_L230 f_X5_ringOf_L231 nm
          rw [nI_succ]
          rfl
        | some b =>
          have hbb := hbnd k b (by omega) hb
          rw [oI_some, if_neg (nI_m1 (by omega))]
          by_cases c3 : b ≤ F (frN A k) + prN A k
          · simp only [c3, if_true]
            rw [if_pos (nI_le c3 (by omega))]
            unfold f_X5_ringOf_L230 f_X5_ringOf_L231 nm
            rw [nI_succ]
            rfl
          · simp only [c3, if_false]
            rw [if_neg (nI_ge (by omega) (by omega))]
            unfold f_X5_ringOf_L224 f_X5_ringOf_L230 f_X5_ringOf_L231 nm
            rw [nI_succ]
            rfl
      · rw [if_neg (show ¬ (toN A k = p ∧ F (frN A k) < 99999999) from fun q => c2 q.2), if_pos (show (99999999 : Int32) ≤ nI (F (frN A k)) from nI_le (a := 99999999) (by omega) (by omega))]
        unfold f_X5_ringOf_L231 nm
        rw [nI_succ]
    · rw [if_neg (fun q => c1 ((nI_eq (by omega) (by omega)).mp q)), if_neg (fun q => c1 q.1)]
      unfold f_X5_ringOf_L231 nm
      rw [nI_succ]
theorem x5_ringOf {M : Mem} {A : Ab} {B : Bg} (h : RM M 0 A B) (hX : WX A) (hl : B.length ≤ 30) {p : Nat} (hp : p < 6) : ∃ N, f_X5_ringOf M 157 (nI p) = some (oI (rgM A p), N) ∧ frm M N 161 162 := by
  have hC := hX.1.2.1
  have hP := hX.1.1
  obtain ⟨M1, a1, a2, a3⟩ := loop_eq (f_X5_ringOf_L2 157 (nI p)) (fun N => f_X5_ringOf_L31 N 157 (nI p)) 6 (fun k N => (∀ q, q < k → rd N (157 + 4) q = nI (srcL p q)) ∧ frm M N 161 162) (fun n N hN => by rw [f_X5_ringOf_L2, if_pos (show (6 : Int32) ≤ nI 6 from Int32.le_refl _)]) (fun n k N hk hN => by
    obtain ⟨g, hf⟩ := hN
    obtain ⟨N1, e1⟩ : ∃ N1, N1 = wr N (157 + 4) k (nI (srcL p k)) := ⟨_, rfl⟩
    refine ⟨N1, ⟨fun q hq => ?_, frm_tr hf (frm_w e1 (by omega) (by omega))⟩, ?_⟩
    · rw [e1, rd_wr]
      by_cases c : q = k
      · rw [if_pos ⟨rfl, c⟩, c]
      · rw [if_neg (fun z => c z.2)]; exact g q (by omega)
    · rw [f_X5_ringOf_L2, if_neg (show ¬ (6 : Int32) ≤ nI k from nI_ge (b := 6) hk (by omega))]
      unfold srcL at e1
      by_cases c : k = p
      · rw [if_pos c] at e1
        have e1 : N1 = wr N (157 + 4) k (0 : Int32) := e1
        rw [if_pos ((nI_eq (by omega) (by omega)).mpr c)]
        unfold f_X5_ringOf_L24
        rw [ck_nI (by omega) (by omega), cl_nI (by omega), nm_to e1]
        unfold nm
        rw [nI_succ]
      · rw [if_neg c] at e1
        have e1 : N1 = wr N (157 + 4) k (99999999 : Int32) := e1
        rw [if_neg (fun q => c ((nI_eq (by omega) (by omega)).mp q))]
        unfold f_X5_ringOf_L24
        rw [ck_nI (by omega) (by omega), cl_nI (by omega), nm_to e1]
        unfold nm
        rw [nI_succ]) 1000 M (by omega) ⟨fun q hq => absurd hq (Nat.not_lt_zero q), frm_rf⟩
  have hsnd : ∀ k q, out1 false A p (srcL p) k q ≤ 99999999 := fun k q => (out1_snd (srcL_snd (A := A) (p := p)) k q).1
  have key := loop_ct (f_X5_ringOf_L33 157 (nI p)) 6 (fun k N => FRc N (157 + 4) (out1 false A p (srcL p) k) ∧ frm M N 161 162) (fun r => r.1 = oI (rgM A p) ∧ frm M r.2 161 162) (fun n N hN => ?_) (fun n k N hk hN ih => ?_) 1000 M1 (by omega) ⟨a2, a3⟩
  · obtain ⟨⟨r1, r2⟩, k1, k2, k3⟩ := key
    have k2 : r1 = oI (rgM A p) := k2
    refine ⟨r2, ?_, k3⟩
    rw [← k2]
    exact a1.trans k1
  · obtain ⟨g, hf⟩ := hN
    refine ⟨(oI (rgM A p), N), ?_, rfl, hf⟩
    rw [f_X5_ringOf_L33, if_pos (show (6 : Int32) ≤ nI 6 from Int32.le_refl _)]
    exact x5_best (RM_far h hC hl hf) hX hp (hsnd 6) g
  · obtain ⟨g, hf⟩ := hN
    obtain ⟨N1, b1, b2, b3⟩ := x5_rin (p := p) (RM_far h hC hl hf) hX hl (hsnd k) g (fun Mq q2 => f_X5_ringOf_L33 157 (nI p) n Mq q2) (nI p) (nI k)
    rw [f_X5_ringOf_L33, if_neg (show ¬ (6 : Int32) ≤ nI k from nI_ge (b := 6) hk (by omega)), b1]
    unfold f_X5_ringOf_L134
    rw [nm_to (nI_1 _).symm]
    exact ih N1 ⟨b2, frm_tr hf b3⟩
theorem pAny_congr {f g : Nat → Bool} : ∀ {n : Nat}, (∀ q, q < n → f q = g q) → pAny f n = pAny g n
  | 0, _ => rfl
  | n + 1, h => by
    show (pAny f n || f n) = (pAny g n || g n)
    rw [pAny_congr (fun q hq => h q (by omega)), h n (by omega)]
theorem zB_eq {A : Ab} (hX : WX A) : zB A = pAny (fun q => decide (rgM A q = some 0)) (nP A) := by
  refine pAny_congr (fun q hq => ?_)
  cases hz : zout A q (nP A) q with
  | true => rw [decide_eq_true ((rgM_0 hX hq).mpr ((zout_p hX hq).mp hz))]
  | false =>
    rw [decide_eq_false (fun z => by
      have := (zout_p hX hq).mpr ((rgM_0 hX hq).mp z)
      rw [hz] at this
      cases this)]
theorem x5_isRing {M : Mem} {A : Ab} {B : Bg} (h : RM M 0 A B) (hX : WX A) (hl : B.length ≤ 30) : ∃ N, f_X5_isRing M 157 = some (bI (zB A), N) ∧ frm M N 161 162 := by
  have hC := hX.1.2.1
  have hP := hX.1.1
  rw [zB_eq hX]
  have hc0 : ∀ X : Option (Int32 × Mem), ck (0 : Int32) 1048 X = X := fun X => ck_nI (k := 0) (by omega) (by omega)
  have key := loop_st (fun n (s : Mem × Int32) k => f_X5_isRing_L4 157 n s.1 s.2 k) (nP A) (fun k s => s.2 = bI (pAny (fun q => decide (rgM A q = some 0)) k) ∧ frm M s.1 161 162) (fun r => r.1 = bI (pAny (fun q => decide (rgM A q = some 0)) (nP A)) ∧ frm M r.2 161 162) (fun n s hN => ?_) (fun n k s hk hN => ?_) 1000 (M, 0) (by omega) ⟨rfl, frm_rf⟩
  · obtain ⟨⟨r1, r2⟩, k1, k2, k3⟩ := key
    have k2 : r1 = bI (pAny (fun q => decide (rgM A q = some 0)) (nP A)) := k2
    refine ⟨r2, ?_, k3⟩
    rw [← k2]
    exact k1
  · obtain ⟨N, v⟩ := s
    obtain ⟨hv, hf⟩ := hN
    have hv : v = bI (pAny (fun q => decide (rgM A q = some 0)) (nP A)) := hv
    have hf : frm M N 161 162 := hf
    have z0 : rd N (157 + 1) (0 : Int32).toNatClampNeg = nI (nP A) := (RM_far h hC hl hf).2.1
    refine ⟨(v, N), ?_, hv, hf⟩
    show f_X5_isRing_L4 157 (n + 1) N v (nI (nP A)) = _
    rw [f_X5_isRing_L4, hc0, z0, if_pos (nI_le (Nat.le_refl _) (by omega)), hv, zk_bI]
  · obtain ⟨N, v⟩ := s
    obtain ⟨hv, hf⟩ := hN
    have hv : v = bI (pAny (fun q => decide (rgM A q = some 0)) k) := hv
    have hf : frm M N 161 162 := hf
    have hR := RM_far h hC hl hf
    have z0 : rd N (157 + 1) (0 : Int32).toNatClampNeg = nI (nP A) := hR.2.1
    show ∃ s' : Mem × Int32, (s'.2 = bI (pAny (fun q => decide (rgM A q = some 0)) (k + 1)) ∧ frm M s'.1 161 162) ∧ f_X5_isRing_L4 157 (n + 1) N v (nI k) = f_X5_isRing_L4 157 n s'.1 s'.2 (nI (k + 1))
    have hst : pAny (fun q => decide (rgM A q = some 0)) (k + 1) = (pAny (fun q => decide (rgM A q = some 0)) k || decide (rgM A k = some 0)) := rfl
    rw [f_X5_isRing_L4, hc0, z0, if_neg (nI_ge hk (by omega)), hst]
    cases hb : pAny (fun q => decide (rgM A q = some 0)) k with
    | true =>
      rw [hb] at hv
      rw [hv, if_neg (show ¬ bI true = 0 from by decide)]
      refine ⟨(N, 1), ⟨rfl, hf⟩, ?_⟩
      unfold f_X5_isRing_L26 f_X5_isRing_L31 nm
      rw [nI_succ]
    | false =>
      rw [hb] at hv
      obtain ⟨N1, a1, a2⟩ := x5_ringOf hR hX hl (p := k) (by omega)
      rw [hv, if_pos (show bI false = 0 from rfl), a1, bd2_s]
      by_cases c : rgM A k = some 0
      · refine ⟨(N1, 1), ⟨by rw [decide_eq_true c]; rfl, frm_tr hf a2⟩, ?_⟩
        rw [c, if_pos (show oI (some 0) = 0 from rfl)]
        unfold f_X5_isRing_L26 f_X5_isRing_L31 nm
        rw [nI_succ]
      · have hne : ¬ oI (rgM A k) = 0 := fun q => by
          cases hr : rgM A k with
          | none => rw [hr, oI_none] at q; exact absurd q (by decide)
          | some s =>
            have hs : s ≤ 100000098 := by
              obtain ⟨⟨cc, b1, b2, b3, b4⟩, -⟩ := bstL_some hr
              have := (WCh_pr hX.2.1 b1).2
              omega
            rw [hr, oI_some] at q
            have := (nI_eq (a := s) (b := 0) (by omega) (by omega)).mp q
            rw [hr, this] at c
            exact c rfl
        refine ⟨(N1, 0), ⟨by rw [decide_eq_false c]; rfl, frm_tr hf a2⟩, ?_⟩
        rw [if_neg hne]
        unfold f_X5_isRing_L31 nm
        rw [nI_succ]
