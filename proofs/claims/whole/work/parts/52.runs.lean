/-! runs: ROUNDS one behind another, to the end -/
theorem pSum_zero {f : Nat → Nat} : ∀ {n : Nat}, (∀ q, f q = 0) → pSum f n = 0
  | 0, _ => rfl
  | n + 1, h => by
    show pSum f n + f n = 0
    rw [pSum_zero h, h n]
theorem ofP_self {p : Nat} {y : Ev} {B : Bg} : ofP ((p, y) :: B) p = y :: ofP B p := by simp [ofP]
theorem ofP_ne {p q : Nat} {y : Ev} {B : Bg} (h : q ≠ p) : ofP ((p, y) :: B) q = ofP B q := by
  have : (p == q) = false := by simpa using fun z => h z.symm
  simp [ofP, this]
theorem bag_len {n : Nat} : ∀ {B : Bg}, (∀ x ∈ B, x.1 < n) → B.length = pSum (fun p => (ofP B p).length) n
  | [], _ => (pSum_zero (fun _ => rfl)).symm
  | (p, y) :: B, h => by
    have ih := bag_len (n := n) (B := B) (fun x hx => h x (List.mem_cons_of_mem _ hx))
    have hp : p < n := h (p, y) List.mem_cons_self
    have := pSum_up (f := fun q => (ofP ((p, y) :: B) q).length) (g := fun q => (ofP B q).length) (p := p) (n := n) hp (fun q hq => by show (ofP ((p, y) :: B) q).length = _; rw [ofP_ne hq])
    have h2 : (ofP ((p, y) :: B) p).length = (ofP B p).length + 1 := by rw [ofP_self]; rfl
    have h3 : ((p, y) :: B).length = B.length + 1 := rfl
    have this : pSum (fun q => (ofP ((p, y) :: B) q).length) n + (ofP B p).length = pSum (fun q => (ofP B q).length) n + (ofP ((p, y) :: B) p).length := this
    omega
theorem WE_len {A : Ab} {B : Bg} (h : WE A B) : B.length = totE A := by
  rw [bag_len (n := nP A) (B := B) (fun x hx => by
    obtain ⟨e, h1, h2⟩ := Bt_of_mem hx
    rw [← h2]
    exact h.2.2.1 e h1)]
  exact pSum_congr (fun q _ => (h.1 q).length_eq)
theorem bd2_s {α β γ : Type} {x : α} {y : β} {k : α → β → Option γ} : bd2 (some (x, y)) k = k x y := rfl
theorem rw1_id {S : AR} : ∀ k, cw1 S k = 0 → rw1 S k = S
  | 0, _ => rfl
  | k + 1, h => by
    have h : cw1 S k + (if mayA (rw1 S k).1 k = true then 1 else 0) = 0 := h
    have ih := rw1_id (S := S) k (by omega)
    by_cases c : mayA (rw1 S k).1 k = true
    · rw [if_pos c] at h; omega
    · show (if mayA (rw1 S k).1 k = true then wkR (rw1 S k) k else rw1 S k) = S
      rw [if_neg c]; exact ih
theorem goes0 {S : AR} (hw : WR S) (h : goesN S = 0) : totE (rnd S).1 = totE S.1 := by
  unfold goesN at h
  have e := rw1_id (S := S) (nP S.1) (by omega)
  obtain ⟨j1, j2, j3, j4, j5, j6, j7, j8, j9⟩ := emH_ok hw.1
  refine tot_ev (fun q => ?_) ?_
  · show ev (emH (rw1 S (nP S.1)).1).1 q = _
    rw [e]; exact j9 q
  · show nP (emH (rw1 S (nP S.1)).1).1 = _
    rw [e]; exact j2
def runN : Nat → AR → AR
  | 0, S => S
  | d + 1, S => if totE S.1 = 0 then S else if goesN S = 0 then rnd S else runN d (rnd S)
theorem runN_ok : ∀ d S, WR S → nA S.1 + 6 * d ≤ 2147483647 → WR (runN d S) ∧ nA (runN d S).1 ≤ nA S.1 + 6 * d ∧ nP (runN d S).1 = nP S.1 ∧ nC (runN d S).1 = nC S.1 ∧ nH (runN d S).1 = nH S.1 ∧ sc (runN d S).1 2 = sc S.1 2
  | 0, S, h, _ => ⟨h, Nat.le_refl _, rfl, rfl, rfl, rfl⟩
  | d + 1, S, h, hb => by
    rw [runN]
    by_cases c0 : totE S.1 = 0
    · rw [if_pos c0]
      exact ⟨h, by omega, rfl, rfl, rfl, rfl⟩
    · rw [if_neg c0]
      obtain ⟨i1, i2, i3, i4, i5, i6⟩ := WR_rnd h (by omega)
      by_cases c1 : goesN S = 0
      · rw [if_pos c1]
        exact ⟨i1, by omega, i3, i4, i5, i6⟩
      · rw [if_neg c1]
        obtain ⟨j1, j2, j3, j4, j5, j6⟩ := runN_ok d (rnd S) i1 (by omega)
        exact ⟨j1, by omega, j3.trans i3, j4.trans i4, j5.trans i5, j6.trans i6⟩
theorem tot30 {A : Ab} (h : WX A) : totE A ≤ 30 := Nat.le_trans h.2.2.2.2.2.1 h.1.2.2.1
theorem x4_runLoop {n : Nat} (hn : n ≤ 40) (bf : Int32) : ∀ d k fuel M S, k + d = n → d < fuel → CS M S → WR S → nA S.1 + 6 * d ≤ 2147483647 → ∃ M1, f_X4_run_L36 0 (nI n) bf fuel M 0 (nI k) = some (sc (runN d S).1 3 - bf, M1) ∧ CS M1 (runN d S) ∧ frC M M1 := by
  have h67 : ∀ M S, CS M S → f_X4_run_L67 M 0 bf = some (sc S.1 3 - bf, M) := fun M S g => by
    unfold f_X4_run_L67
    rw [show rd M (0 + 1) 7 = sc S.1 3 from g.1.2.2.1 3 (by omega) (by omega)]
  intro d
  induction d with
  | zero =>
    intro k fuel M S hk hf g hw hb
    obtain ⟨m, rfl⟩ : ∃ m, fuel = m + 1 := ⟨fuel - 1, by omega⟩
    refine ⟨M, ?_, g, frC_rf⟩
    rw [f_X4_run_L36, if_pos (nI_le (by omega) (by omega)), h67 M S g]
    rfl
  | succ d ih =>
    intro k fuel M S hk hf g hw hb
    obtain ⟨m, rfl⟩ : ∃ m, fuel = m + 1 := ⟨fuel - 1, by omega⟩
    have ht := tot30 hw.1
    rw [f_X4_run_L36, if_neg (nI_ge (by omega) (by omega)), if_pos rfl, x3_eventsThatWait g.1 hw.1.1, bd_s, runN]
    by_cases c0 : totE S.1 = 0
    · rw [if_pos c0, c0, if_pos (show nI 0 ≤ 0 from Int32.le_refl _)]
      exact ⟨M, h67 M S g, g, frC_rf⟩
    · rw [if_neg c0, if_neg (nI_nle (by omega) (by omega))]
      obtain ⟨M1, a1, a2, a3⟩ := x4_round g hw (by omega)
      obtain ⟨i1, i2, i3, i4, i5, i6⟩ := WR_rnd hw (by omega)
      rw [a1, bd2_s]
      rw [nm_to (nI_1 _).symm]
      by_cases c1 : goesN S = 0
      · have hz := goes0 hw c1
        rw [if_pos c1, decide_eq_true ⟨c1, by omega⟩]
        obtain ⟨m2, rfl⟩ : ∃ m2, m = m2 + 1 := ⟨m - 1, by omega⟩
        refine ⟨M1, ?_, a2, a3⟩
        rw [f_X4_run_L36]
        by_cases c2 : nI n ≤ nI (k + 1)
        · rw [if_pos c2]; exact h67 M1 _ a2
        · rw [if_neg c2, if_neg (by decide)]; exact h67 M1 _ a2
      · rw [if_neg c1, decide_eq_false (fun q => c1 q.1)]
        obtain ⟨M2, b1, b2, b3⟩ := ih (k + 1) m M1 (rnd S) (by omega) (by omega) a2 i1 (by omega)
        exact ⟨M2, b1, b2, frC_tr a3 b3⟩
theorem x5_68 {M : Mem} {S : AR} {B : Bg} (g : MS M S B) (bf : Int32) : ck (3 : Int32) 1048 (some (((rd M (157 + 1) (3 : Int32).toNatClampNeg) - bf), M)) = some (sc S.1 3 - bf, M) := by
  have z : rd M (157 + 1) (3 : Int32).toNatClampNeg = sc S.1 3 := g.1.2.2.1 3 (by omega) (by omega)
  rw [z]
  exact ck_nI (k := 3) (by omega) (by omega)
theorem z9 {M : Mem} {S : AR} {B : Bg} (g : MS M S B) : rd M (157 + 1) (9 : Int32).toNatClampNeg = nI (totE S.1) := by
  rw [← WE_len g.2.2]
  exact g.1.2.2.2.2.2.2.1
theorem ck9 {α : Type} {X : Option α} : ck (9 : Int32) 1048 X = X := ck_nI (k := 9) (by omega) (by omega)
theorem x5_runLoop {n : Nat} (hn : n ≤ 40) (bf : Int32) : ∀ d k fuel M S B, k + d = n → d < fuel → MS M S B → WR S → nA S.1 + 6 * d ≤ 2147483647 → (sc S.1 2 = 0 ∨ sc S.1 2 = 1 ∨ sc S.1 2 = 2) → ∃ M1 B1, f_X5_run_L37 157 (nI n) bf fuel M 1 (nI k) = some (sc (runN d S).1 3 - bf, M1) ∧ MS M1 (runN d S) B1 ∧ frD M M1 := by
  have h68 : ∀ M S B, MS M S B → f_X5_run_L68 M 157 bf = some (sc S.1 3 - bf, M) := fun M S B g => x5_68 g bf
  intro d
  induction d with
  | zero =>
    intro k fuel M S B hk hf g hw hb hfm
    obtain ⟨m, rfl⟩ : ∃ m, fuel = m + 1 := ⟨fuel - 1, by omega⟩
    refine ⟨M, B, ?_, g, frD_rf⟩
    rw [f_X5_run_L37, if_pos (nI_le (by omega) (by omega)), h68 M S B g]
    rfl
  | succ d ih =>
    intro k fuel M S B hk hf g hw hb hfm
    obtain ⟨m, rfl⟩ : ∃ m, fuel = m + 1 := ⟨fuel - 1, by omega⟩
    have ht := tot30 hw.1
    rw [f_X5_run_L37, if_neg (nI_ge (by omega) (by omega)), if_neg (by decide), ck9, z9 g, runN]
    by_cases c0 : totE S.1 = 0
    · rw [if_pos c0, c0, if_pos (show nI 0 ≤ 0 from Int32.le_refl _)]
      exact ⟨M, B, h68 M S B g, g, frD_rf⟩
    · rw [if_neg c0, if_neg (nI_nle (by omega) (by omega))]
      obtain ⟨M1, B1, a1, a2, a3⟩ := x5_round g hw (by omega) hfm
      obtain ⟨i1, i2, i3, i4, i5, i6⟩ := WR_rnd hw (by omega)
      rw [a1, bd2_s]
      rw [nm_to (nI_1 _).symm]
      by_cases c1 : goesN S = 0
      · rw [if_pos c1, decide_eq_false (by omega)]
        obtain ⟨m2, rfl⟩ : ∃ m2, m = m2 + 1 := ⟨m - 1, by omega⟩
        refine ⟨M1, B1, ?_, a2, a3⟩
        rw [f_X5_run_L37]
        by_cases c2 : nI n ≤ nI (k + 1)
        · rw [if_pos c2]; exact h68 M1 _ B1 a2
        · rw [if_neg c2, if_pos (show bI false = 0 from rfl)]; exact h68 M1 _ B1 a2
      · rw [if_neg c1, decide_eq_true (by omega)]
        obtain ⟨M2, B2, b1, b2, b3⟩ := ih (k + 1) m M1 (rnd S) B1 (by omega) (by omega) a2 i1 (by omega) (by rw [i6]; exact hfm)
        exact ⟨M2, B2, b1, b2, frD_tr a3 b3⟩
def finN : Nat → AR → AR
  | 0, S => S
  | 1, S => if totE S.1 = 0 then S else rnd S
  | d + 2, S => if totE S.1 = 0 then S else if goesN S = 0 then finN d (letS (rnd S)) else finN (d + 1) (rnd S)
theorem finN_ok : ∀ d S, WR S → nA S.1 + 180 * d ≤ 2147483647 → WR (finN d S) ∧ nA (finN d S).1 ≤ nA S.1 + 180 * d ∧ nP (finN d S).1 = nP S.1 ∧ nC (finN d S).1 = nC S.1 ∧ nH (finN d S).1 = nH S.1 ∧ sc (finN d S).1 2 = sc S.1 2
  | 0, S, h, _ => ⟨h, Nat.le_refl _, rfl, rfl, rfl, rfl⟩
  | 1, S, h, hb => by
    rw [finN]
    by_cases c0 : totE S.1 = 0
    · rw [if_pos c0]
      exact ⟨h, by omega, rfl, rfl, rfl, rfl⟩
    · rw [if_neg c0]
      obtain ⟨i1, i2, i3, i4, i5, i6⟩ := WR_rnd h (by omega)
      exact ⟨i1, by omega, i3, i4, i5, i6⟩
  | d + 2, S, h, hb => by
    rw [finN]
    by_cases c0 : totE S.1 = 0
    · rw [if_pos c0]
      exact ⟨h, by omega, rfl, rfl, rfl, rfl⟩
    · rw [if_neg c0]
      obtain ⟨i1, i2, i3, i4, i5, i6⟩ := WR_rnd h (by omega)
      by_cases c1 : goesN S = 0
      · rw [if_pos c1]
        have hz := goes0 h c1
        obtain ⟨j1, j2, j3, j4, j5, j6⟩ := WR_let i1 (by omega) (by omega)
        obtain ⟨k1, k2, k3, k4, k5, k6⟩ := finN_ok d (letS (rnd S)) j1 (by omega)
        exact ⟨k1, by omega, k3.trans (j3.trans i3), k4.trans (j4.trans i4), k5.trans (j5.trans i5), k6.trans (j6.trans i6)⟩
      · rw [if_neg c1]
        obtain ⟨j1, j2, j3, j4, j5, j6⟩ := finN_ok (d + 1) (rnd S) i1 (by omega)
        exact ⟨j1, by omega, j3.trans i3, j4.trans i4, j5.trans i5, j6.trans i6⟩
theorem x4_f64 {M : Mem} {S : AR} (g : CS M S) (bf : Int32) : f_X4_finish_L64 M 0 bf = some (sc S.1 3 - bf, M) := by
  unfold f_X4_finish_L64
  rw [show rd M (0 + 1) 7 = sc S.1 3 from g.1.2.2.1 3 (by omega) (by omega)]
theorem x4_finLoop (bf : Int32) : ∀ d k fuel M S, k + d = 400 → d < fuel → CS M S → WR S → nA S.1 + 180 * d ≤ 2147483647 → ∃ M1, f_X4_finish_L22 0 bf fuel M 0 (nI k) = some (sc (finN d S).1 3 - bf, M1) ∧ CS M1 (finN d S) ∧ frC M M1
  | 0, k, fuel, M, S, hk, hf, g, hw, hb => by
    obtain ⟨m, rfl⟩ : ∃ m, fuel = m + 1 := ⟨fuel - 1, by omega⟩
    refine ⟨M, ?_, g, frC_rf⟩
    rw [f_X4_finish_L22, if_pos (show (400 : Int32) ≤ _ from nI_le (a := 400) (by omega) (by omega)), x4_f64 g, finN]
  | 1, k, fuel, M, S, hk, hf, g, hw, hb => by
    obtain ⟨m, rfl⟩ : ∃ m, fuel = m + 1 := ⟨fuel - 1, by omega⟩
    have ht := tot30 hw.1
    rw [f_X4_finish_L22, if_neg (show ¬ (400 : Int32) ≤ _ from nI_ge (b := 400) (by omega) (by omega)), x3_eventsThatWait g.1 hw.1.1, bd_s, finN]
    by_cases c0 : totE S.1 = 0
    · rw [if_pos c0, c0, if_pos (show nI 0 ≤ 0 from Int32.le_refl _)]
      exact ⟨M, x4_f64 g bf, g, frC_rf⟩
    · rw [if_neg c0, if_neg (nI_nle (by omega) (by omega)), if_pos rfl]
      obtain ⟨M1, a1, a2, a3⟩ := x4_round g hw (by omega)
      rw [a1, bd2_s]
      unfold f_X4_finish_L58
      rw [nm_to (nI_1 _).symm]
      obtain ⟨m2, rfl⟩ : ∃ m2, m = m2 + 1 := ⟨m - 1, by omega⟩
      refine ⟨M1, ?_, a2, a3⟩
      show f_X4_finish_L22 0 bf (m2 + 1) M1 _ (nI (k + 1)) = _
      rw [f_X4_finish_L22, if_pos (show (400 : Int32) ≤ _ from nI_le (a := 400) (by omega) (by omega)), x4_f64 a2]
  | d + 2, k, fuel, M, S, hk, hf, g, hw, hb => by
    obtain ⟨m, rfl⟩ : ∃ m, fuel = m + 1 := ⟨fuel - 1, by omega⟩
    have ht := tot30 hw.1
    rw [f_X4_finish_L22, if_neg (show ¬ (400 : Int32) ≤ _ from nI_ge (b := 400) (by omega) (by omega)), x3_eventsThatWait g.1 hw.1.1, bd_s, finN]
    by_cases c0 : totE S.1 = 0
    · rw [if_pos c0, c0, if_pos (show nI 0 ≤ 0 from Int32.le_refl _)]
      exact ⟨M, x4_f64 g bf, g, frC_rf⟩
    · rw [if_neg c0, if_neg (nI_nle (by omega) (by omega)), if_pos rfl]
      obtain ⟨M1, a1, a2, a3⟩ := x4_round g hw (by omega)
      obtain ⟨i1, i2, i3, i4, i5, i6⟩ := WR_rnd hw (by omega)
      rw [a1, bd2_s]
      unfold f_X4_finish_L58
      rw [nm_to (nI_1 _).symm]
      by_cases c1 : goesN S = 0
      · have hz := goes0 hw c1
        rw [if_pos c1, decide_eq_true ⟨c1, by omega⟩]
        obtain ⟨m2, rfl⟩ : ∃ m2, m = m2 + 1 := ⟨m - 1, by omega⟩
        obtain ⟨M2, b1, b2, b3⟩ := x4_let a2 i1 (by omega) (by omega)
        obtain ⟨j1, j2, j3, j4, j5, j6⟩ := WR_let i1 (by omega) (by omega)
        obtain ⟨M3, e1, e2, e3⟩ := x4_finLoop bf d (k + 1 + 1) m2 M2 (letS (rnd S)) (by omega) (by omega) b2 j1 (by omega)
        refine ⟨M3, ?_, e2, frC_tr a3 (frC_tr b3 e3)⟩
        show f_X4_finish_L22 0 bf (m2 + 1) M1 _ (nI (k + 1)) = _
        rw [f_X4_finish_L22, if_neg (show ¬ (400 : Int32) ≤ _ from nI_ge (b := 400) (by omega) (by omega)), x3_eventsThatWait a2.1 i1.1.1, bd_s, if_neg (nI_nle (by omega) (by omega)), if_neg (by decide), b1, bd2_s]
        unfold f_X4_finish_L58
        rw [nm_to (nI_1 _).symm]
        exact e1
      · rw [if_neg c1, decide_eq_false (fun q => c1 q.1)]
        obtain ⟨M2, b1, b2, b3⟩ := x4_finLoop bf (d + 1) (k + 1) m M1 (rnd S) (by omega) (by omega) a2 i1 (by omega)
        exact ⟨M2, b1, b2, frC_tr a3 b3⟩
theorem x5_finLoop (bf : Int32) : ∀ d fuel M S B, d < fuel → d ≤ 400 → MS M S B → WR S → nA S.1 + 180 * d ≤ 2147483647 → (sc S.1 2 = 0 ∨ sc S.1 2 = 1 ∨ sc S.1 2 = 2) → ∃ M1 B1, f_X5_finish_L21 157 bf fuel M (nI d) = some (sc (finN d S).1 3 - bf, M1) ∧ MS M1 (finN d S) B1 ∧ frD M M1
  | 0, fuel, M, S, B, hf, hd, g, hw, hb, hfm => by
    obtain ⟨m, rfl⟩ : ∃ m, fuel = m + 1 := ⟨fuel - 1, by omega⟩
    refine ⟨M, B, ?_, g, frD_rf⟩
    rw [f_X5_finish_L21, if_pos (show nI 0 ≤ 0 from Int32.le_refl _), finN]
    exact x5_68 g bf
  | 1, fuel, M, S, B, hf, hd, g, hw, hb, hfm => by
    obtain ⟨m, rfl⟩ : ∃ m, fuel = m + 1 := ⟨fuel - 1, by omega⟩
    have ht := tot30 hw.1
    rw [f_X5_finish_L21, if_neg (nI_nle (by omega) (by omega)), ck9, z9 g, finN]
    by_cases c0 : totE S.1 = 0
    · rw [if_pos c0, c0, if_pos (show nI 0 ≤ 0 from Int32.le_refl _)]
      exact ⟨M, B, x5_68 g bf, g, frD_rf⟩
    · rw [if_neg c0, if_neg (nI_nle (by omega) (by omega))]
      obtain ⟨M1, B1, a1, a2, a3⟩ := x5_round g hw (by omega) hfm
      rw [a1, bd2_s]
      obtain ⟨m2, rfl⟩ : ∃ m2, m = m2 + 1 := ⟨m - 1, by omega⟩
      have hq : f_X5_finish_L21 157 bf (m2 + 1) M1 (nI 0) = some (sc (rnd S).1 3 - bf, M1) := by
        rw [f_X5_finish_L21, if_pos (show nI 0 ≤ 0 from Int32.le_refl _)]
        exact x5_68 a2 bf
      refine ⟨M1, B1, ?_, a2, a3⟩
      rw [nm_to (show nI 0 = nI 1 + -1 from (pk_m1 0).symm)]
      by_cases c1 : bI (decide (0 < goesN S)) = 0
      · rw [if_pos c1, if_pos (show nI 0 ≤ 0 from Int32.le_refl _)]
        exact hq
      · rw [if_neg c1]
        exact hq
  | d + 2, fuel, M, S, B, hf, hd, g, hw, hb, hfm => by
    obtain ⟨m, rfl⟩ : ∃ m, fuel = m + 1 := ⟨fuel - 1, by omega⟩
    have ht := tot30 hw.1
    rw [f_X5_finish_L21, if_neg (nI_nle (by omega) (by omega)), ck9, z9 g, finN]
    by_cases c0 : totE S.1 = 0
    · rw [if_pos c0, c0, if_pos (show nI 0 ≤ 0 from Int32.le_refl _)]
      exact ⟨M, B, x5_68 g bf, g, frD_rf⟩
    · rw [if_neg c0, if_neg (nI_nle (by omega) (by omega))]
      obtain ⟨M1, B1, a1, a2, a3⟩ := x5_round g hw (by omega) hfm
      obtain ⟨i1, i2, i3, i4, i5, i6⟩ := WR_rnd hw (by omega)
      rw [a1, bd2_s]
      rw [nm_to (show nI (d + 1) = nI (d + 2) + -1 from (pk_m1 (d + 1)).symm)]
      by_cases c1 : goesN S = 0
      · have hz := goes0 hw c1
        obtain ⟨M2, B2, b1, b2, b3⟩ := x5_let a2 i1 (by omega) (by omega)
        obtain ⟨t1, t2, t3, t4⟩ := least_ok i1.1 (by omega)
        obtain ⟨j1, j2, j3, j4, j5, j6⟩ := WR_let i1 (by omega) (by omega)
        obtain ⟨M3, B3, e1, e2, e3⟩ := x5_finLoop bf d m M2 (letS (rnd S)) B2 (by omega) (by omega) b2 j1 (by omega) (by rw [j6, i6]; exact hfm)
        refine ⟨M3, B3, ?_, by rw [if_pos c1]; exact e2, frD_tr a3 (frD_tr b3 e3)⟩
        have h0 : (0 : Int32) ≤ leastA (rnd S).1 := by
          rw [Int32.le_iff_toInt_le]
          exact t2
        rw [if_pos c1, decide_eq_false (by omega), if_pos (show bI false = 0 from rfl), if_neg (nI_nle (by omega) (by omega)), b1, bd2_s, if_pos h0]
        unfold f_X5_finish_L68 f_X5_finish_L70
        rw [nm_to (nI_pred d).symm]
        exact e1
      · obtain ⟨M2, B2, b1, b2, b3⟩ := x5_finLoop bf (d + 1) m M1 (rnd S) B1 (by omega) (by omega) a2 i1 (by omega) (by rw [i6]; exact hfm)
        refine ⟨M2, B2, ?_, by rw [if_neg c1]; exact b2, frD_tr a3 b3⟩
        rw [if_neg c1, decide_eq_true (by omega), if_neg (by decide)]
        exact b1
