/-! the pure part: numbers, loops, the abstract state -/
theorem lit_nI (n : Nat) : (OfNat.ofNat n : Int32) = nI n := rfl
theorem cl_nI {k : Nat} (h : k < 2147483648) : (nI k).toNatClampNeg = k := nI_clamp h
theorem ck_nI {α : Type} {k n : Nat} {X : Option α} (h : k < n) (hn : n < 2147483648) : ck (nI k) n X = X := by
  unfold ck
  rw [if_neg (vp_in_nI h hn)]
theorem le_nI {a b : Nat} (ha : a < 2147483648) (hb : b < 2147483648) : (nI a ≤ nI b) = (a ≤ b) := propext (nI_leI ha hb)
theorem lt_nI {a b : Nat} (ha : a < 2147483648) (hb : b < 2147483648) : (nI a < nI b) = (a < b) := propext (nI_ltI ha hb)
theorem eq_nI {a b : Nat} (ha : a < 2147483648) (hb : b < 2147483648) : (nI a = nI b) = (a = b) := propext (nI_eq ha hb)
theorem rd_wr {M : Mem} {i j k q : Nat} {v : Int32} : rd (wr M i k v) j q = if j = i ∧ q = k then v else rd M j q := by
  unfold rd wr
  by_cases h : j = i
  · subst h
    by_cases h2 : q = k <;> simp [upd, h2]
  · simp [h]
theorem loop_up {σ R : Type} (F : Nat → σ → Int32 → Option R) (m : Nat) (acc : Nat → σ) (res : Option R) (hex : ∀ n, F (n + 1) (acc m) (nI m) = res) (hst : ∀ n k, k < m → F (n + 1) (acc k) (nI k) = F n (acc (k + 1)) (nI (k + 1))) : ∀ fuel, m < fuel → F fuel (acc 0) (nI 0) = res := by
  have key : ∀ d k fuel, k + d = m → d < fuel → F fuel (acc k) (nI k) = res := by
    intro d
    induction d with
    | zero =>
      intro k fuel hk hf
      obtain ⟨n, rfl⟩ : ∃ n, fuel = n + 1 := ⟨fuel - 1, by omega⟩
      have : k = m := by omega
      subst this
      exact hex n
    | succ d ih =>
      intro k fuel hk hf
      obtain ⟨n, rfl⟩ : ∃ n, fuel = n + 1 := ⟨fuel - 1, by omega⟩
      rw [hst n k (by omega)]
      exact ih (k + 1) n (by omega) (by omega)
  intro fuel hf
  exact key m 0 fuel (by omega) hf
-- prefix functions
def pCnt (f : Nat → Bool) : Nat → Nat
  | 0 => 0
  | k + 1 => pCnt f k + (if f k = true then 1 else 0)
def fstIx (f : Nat → Bool) : Nat → Option Nat
  | 0 => none
  | k + 1 => match fstIx f k with
    | some i => some i
    | none => if f k = true then some k else none
def pAny (f : Nat → Bool) : Nat → Bool
  | 0 => false
  | k + 1 => pAny f k || f k
def oI (x : Option Nat) : Int32 := match x with
  | none => -1
  | some i => nI i
def bI (x : Bool) : Int32 := if x = true then 1 else 0
theorem pCnt_le (f : Nat → Bool) : ∀ k, pCnt f k ≤ k
  | 0 => Nat.le_refl 0
  | k + 1 => by
    have := pCnt_le f k
    unfold pCnt
    split <;> omega
theorem fstIx_lt {f : Nat → Bool} : ∀ {k i : Nat}, fstIx f k = some i → i < k ∧ f i = true
  | 0, i, h => by cases h
  | k + 1, i, h => by
    unfold fstIx at h
    cases hq : fstIx f k with
    | some j =>
      rw [hq] at h
      cases h
      have := fstIx_lt hq
      exact ⟨by omega, this.2⟩
    | none =>
      rw [hq] at h
      by_cases hf : f k = true
      · simp [hf] at h
        subst h
        exact ⟨by omega, hf⟩
      · simp [hf] at h
theorem fstIx_mono {f : Nat → Bool} {k i : Nat} (h : fstIx f k = some i) : ∀ d, fstIx f (k + d) = some i
  | 0 => h
  | d + 1 => by
    show fstIx f (k + d + 1) = some i
    unfold fstIx
    rw [fstIx_mono h d]
-- the abstract state
abbrev Ev : Type := Int32 × Int32 × Int32 × Int32
abbrev Ab : Type := (Nat × Nat × Nat × Nat) × (Nat → Int32) × (Nat → Nat → Int32) × (Nat → Nat → Int32) × (Nat → List Ev)
def nP (A : Ab) : Nat := A.1.1
def nC (A : Ab) : Nat := A.1.2.1
def nH (A : Ab) : Nat := A.1.2.2.1
def nA (A : Ab) : Nat := A.1.2.2.2
def sc (A : Ab) (k : Nat) : Int32 := A.2.1 k
def ch (A : Ab) (c k : Nat) : Int32 := A.2.2.1 c k
def pt (A : Ab) (k p : Nat) : Int32 := A.2.2.2.1 k p
def ev (A : Ab) (p : Nat) : List Ev := A.2.2.2.2 p
/-- the channels of a World's Channels at c0 are those of A -/
def RCh (M : Mem) (c0 : Nat) (A : Ab) : Prop := rd M c0 7 = nI (nC A) ∧ ∀ c, c < nC A → rd M (c0 + 1) c = ch A c 0 ∧ rd M (c0 + 2) c = ch A c 1 ∧ rd M (c0 + 3) c = ch A c 2 ∧ rd M (c0 + 4) c = ch A c 3 ∧ rd M (c0 + 5) c = ch A c 4 ∧ rd M (c0 + 6) c = ch A c 5 ∧ rd M (c0 + 7) c = ch A c 6
/-- the channels of the model's row at r -/
def RMh (M : Mem) (r : Nat) (A : Ab) : Prop := rd M (157 + 1) (r + 1) = nI (nC A) ∧ ∀ c k, c < nC A → k < 7 → rd M (157 + 1) (r + 28 + 7 * c + k) = ch A c k
-- ---- readers of Channels
theorem x0_countFrom {M : Mem} {c0 : Nat} {A : Ab} (h : RCh M c0 A) (hm : nC A ≤ 12) (p : Int32) : f_X0_countFrom M c0 p = some (nI (pCnt (fun c => decide (ch A c 0 = p)) (nC A))) := by
  unfold f_X0_countFrom
  refine loop_up (f_X0_countFrom_L4 M c0 p) (nC A) (fun k => nI (pCnt (fun c => decide (ch A c 0 = p)) k)) _ (fun n => ?_) (fun n k hk => ?_) 1000 (by omega)
  · rw [f_X0_countFrom_L4, h.1, if_pos (nI_le (Nat.le_refl _) (by omega))]
  · rw [f_X0_countFrom_L4, h.1, if_neg (nI_ge hk (by omega)), ck_nI (by omega) (by omega), cl_nI (by omega), (h.2 k hk).1]
    by_cases hq : ch A k 0 = p
    · simp only [if_pos hq, nm, f_X0_countFrom_L25, pCnt, hq, decide_true, if_true, lit_nI, nI_add]
    · simp only [if_neg hq, nm, f_X0_countFrom_L25, pCnt, hq, decide_false, lit_nI, nI_add, if_false, Nat.add_zero, Bool.false_eq_true]
