/-! LET GO: a part works on all its events of a time -/
theorem ev_send_self {A : Ab} (hX : WX A) {p : Nat} (hp : p < 6) {t v : Int32} : ev (sendA A p t v) p = ev A p := by
  have hP := hX.1.1
  unfold sendA
  by_cases h1 : v ≤ 0
  · rw [if_pos h1]
  · rw [if_neg h1]
    by_cases h2 : outN A p = 0
    · rw [if_pos h2]
    · rw [if_neg h2]
      cases hf : fstIx (isPlace A (nI p) (v.toNatClampNeg % outN A p)) (nC A) with
      | none => rfl
      | some c =>
        obtain ⟨hcl, hq⟩ := fstIx_lt hf
        have hq := of_decide_eq_true hq
        obtain ⟨f, t', pr, de, k0, k1, k2, k3, k4, k5, k6, k7⟩ := hX.2.1 c hcl
        have hfp : f = p := (nI_eq (by omega) (by omega)).mp (k0.symm.trans hq.1)
        have htn : toN A c = t' := by unfold toN; rw [k1, cl_nI (by omega)]
        show (if p = toN A c then _ else ev A p) = ev A p
        rw [if_neg (by omega)]
theorem ev_work_self {A : Ab} (hX : WX A) {p : Nat} (hp : p < 6) {x : Ev} {L : List Ev} (hv : ev A p = x :: L) : ev (workA A p) p = L := by
  have e : workA A p = sendA (work1 A p x L) p x.1 x.2.2.2 := by unfold workA; rw [hv]
  rw [e, ev_send_self (WX_work1 hX hv).1 hp]
  show (if p = p then L else ev A p) = L
  rw [if_pos rfl]
def nT (T : Int32) : List Ev → Nat
  | [] => 0
  | x :: L => if x.1 = T then nT T L + 1 else 0
theorem nT_le (T : Int32) : ∀ L : List Ev, nT T L ≤ L.length
  | [] => Nat.le_refl _
  | x :: L => by
    have := nT_le T L
    show (if x.1 = T then nT T L + 1 else 0) ≤ L.length + 1
    split <;> omega
theorem nT_pos {T : Int32} (hT : T ≠ 99999999) {L : List Ev} : headT L = T ↔ 0 < nT T L := by
  cases L with
  | nil =>
    constructor
    · intro q
      exact absurd q.symm hT
    · intro q
      exact absurd q (by show ¬ 0 < 0; omega)
  | cons x L =>
    show x.1 = T ↔ 0 < (if x.1 = T then nT T L + 1 else 0)
    by_cases c : x.1 = T
    · rw [if_pos c]
      exact ⟨fun _ => by omega, fun _ => c⟩
    · rw [if_neg c]
      exact ⟨fun q => absurd q c, fun q => absurd q (by omega)⟩
def itW (S : AR) (p : Nat) : Nat → AR
  | 0 => S
  | k + 1 => wkR (itW S p k) p
theorem itW_ok {S : AR} (h : WR S) {p : Nat} (hp : p < 6) (T : Int32) : ∀ k, k ≤ nT T (ev S.1 p) → nA S.1 + k ≤ 2147483647 → WR (itW S p k) ∧ nA (itW S p k).1 ≤ nA S.1 + k ∧ nP (itW S p k).1 = nP S.1 ∧ nC (itW S p k).1 = nC S.1 ∧ nH (itW S p k).1 = nH S.1 ∧ nT T (ev (itW S p k).1 p) + k = nT T (ev S.1 p) ∧ ∀ j, j ≠ 3 → sc (itW S p k).1 j = sc S.1 j
  | 0, _, _ => ⟨h, Nat.le_refl _, rfl, rfl, rfl, rfl, fun _ _ => rfl⟩
  | k + 1, hk, hb => by
    obtain ⟨i1, i2, i3, i4, i5, i6, i7⟩ := itW_ok h hp T k (by omega) (by omega)
    obtain ⟨j1, j2, j3, j4, j5⟩ := WR_wk i1 (by omega) p
    cases hv : ev (itW S p k).1 p with
    | nil =>
      rw [hv] at i6
      have : nT T ([] : List Ev) = 0 := rfl
      omega
    | cons x L =>
      have hs := ev_work_self i1.1 hp hv
      have hne : ev (itW S p k).1 p ≠ [] := by rw [hv]; intro q; cases q
      refine ⟨j1, by show nA (wkR (itW S p k) p).1 ≤ _; omega, j3.trans i3, j4.trans i4, j5.trans i5, ?_, fun j hj => ?_⟩
      · show nT T (ev (workA (itW S p k).1 p) p) + (k + 1) = _
        rw [hs]
        rw [hv] at i6
        have e : nT T (x :: L) = if x.1 = T then nT T L + 1 else 0 := rfl
        rw [e] at i6
        by_cases c : x.1 = T
        · rw [if_pos c] at i6; omega
        · rw [if_neg c] at i6; omega
      · show sc (workA (itW S p k).1 p) j = _
        rw [sc_work hne, if_neg hj, i7 j hj]
theorem x4_letInner {M : Mem} {S : AR} (h : CS M S) (hw : WR S) (hb : nA S.1 + 30 ≤ 2147483647) {p : Nat} (hp : p < 6) {T : Int32} (hT : T ≠ 99999999) (k10 : Mem → Int32 → Option (Int32 × Mem)) {Q : (Int32 × Mem) → Prop} (hend : ∀ N, CS N (itW S p (nT T (ev S.1 p))) → frC M N → ∃ r, k10 N (nI (p + 1)) = some r ∧ Q r) : ∃ r, f_X4_letEarliestGo_L23 k10 0 T (nI p) 1000 M (nI 0) = some r ∧ Q r := by
  have hm : nT T (ev S.1 p) ≤ 30 := Nat.le_trans (nT_le T _) (hw.1.1.2.2.2 p)
  refine loop_st (f_X4_letEarliestGo_L23 k10 0 T (nI p)) (nT T (ev S.1 p)) (fun k N => CS N (itW S p k) ∧ frC M N) Q (fun n N hN => ?_) (fun n k N hk hN => ?_) 1000 M (by omega) ⟨h, frC_rf⟩
  · obtain ⟨g, hf⟩ := hN
    obtain ⟨i1, i2, i3, i4, i5, i6, i7⟩ := itW_ok hw hp T (nT T (ev S.1 p)) (Nat.le_refl _) (by omega)
    obtain ⟨r, q1, q2⟩ := hend N g hf
    refine ⟨r, ?_, q2⟩
    have h56 : f_X4_letEarliestGo_L56 k10 N 0 T (nI p) = some r := by
      unfold f_X4_letEarliestGo_L56 nm
      rw [nI_1]
      exact q1
    have ht := x2_firstTime (g.1.2.2.2.2.2 p hp) (i1.1.1.2.2.2 p)
    have hne : ¬ headT (ev (itW S p (nT T (ev S.1 p))).1 p) = T := fun q => by
      have := (nT_pos hT).mp q
      omega
    rw [f_X4_letEarliestGo_L23]
    by_cases c : (30 : Int32) ≤ nI (nT T (ev S.1 p))
    · rw [if_pos c]; exact h56
    · rw [if_neg c, ck_nI (by omega) (by omega), cl_nI (by omega), ht, bd_s, if_neg hne]
      exact h56
  · obtain ⟨g, hf⟩ := hN
    obtain ⟨i1, i2, i3, i4, i5, i6, i7⟩ := itW_ok hw hp T k (by omega) (by omega)
    have ht := x2_firstTime (g.1.2.2.2.2.2 p hp) (i1.1.1.2.2.2 p)
    have he : headT (ev (itW S p k).1 p) = T := (nT_pos hT).mpr (by omega)
    have hne : ev (itW S p k).1 p ≠ [] := fun q => by
      rw [q] at he
      exact hT he.symm
    obtain ⟨N1, a1, a2, a3⟩ := x4_work g i1 hp hne
    have h30 : ¬ (30 : Int32) ≤ nI k := nI_ge (b := 30) (by omega) (by omega)
    refine ⟨N1, ⟨a2, frC_tr hf a3⟩, ?_⟩
    rw [f_X4_letEarliestGo_L23, if_neg h30, ck_nI (by omega) (by omega), cl_nI (by omega), ht, bd_s, if_pos he, a1, bd_s]
    unfold nm
    rw [nI_1]
