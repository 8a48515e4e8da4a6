abbrev M0 : Mem := (fun _ _ => 0, 0)
def aU (h0 q1 q2 q3 : Nat) (w1 w2 w3 w4 lg md : Nat → Nat) : Nat → Nat := fun i => if i = 0 then h0 else if i < 38 then w1 (i - 1) else if i < 75 then w2 (i - 38) else if i = 75 then q1 else if i < 113 then w3 (i - 76) else if i < 150 then w4 (i - 113) else if i = 150 then q2 else if i < 156 then lg (i - 151) else if i = 156 then q3 else md (i - 157)
def eqvE (e1 e2 : va_E) : Prop := ∀ (D : va_G) (cl : List vw_C) (x : Nat) (H : Heap), va_at D cl (x, e1) H → va_at D cl (x, e2) H
theorem eqvE_r {e : va_E} : eqvE e e := fun _ _ _ _ h => h
theorem eqvE_q {cA : ClassId} {n : Nat} {f g : Nat → Option Nat} (h : ∀ j, j < n → f j = g j) : eqvE (.inl (cA, n, .inr (.inr (.inr (.inr f))))) (.inl (cA, n, .inr (.inr (.inr (.inr g))))) := by
  intro D cl x H h1
  have h1 : H[x]? = some (arrV cA n (fun j => va_rf (f j))) := h1
  show H[x]? = some (arrV cA n (fun j => va_rf (g j)))
  rw [h1, arrV_congr (fun j hj => by rw [h j hj])]
def PAx (cy : Nat → ClassId) (h0 q1 q2 q3 : Nat) (w1 w2 w3 w4 lg md : Nat → Nat) (i : Nat) : Prop := ∃ e, (ysp cy h0 q1 q2 q3 w1 w2 w3 w4 lg ++ ymd cy md)[i]? = some (aU h0 q1 q2 q3 w1 w2 w3 w4 lg md i, e) ∧ eqvE e (cont (aU h0 q1 q2 q3 w1 w2 w3 w4 lg md) cy M0 i)
theorem pa_0 (cy : Nat → ClassId) (h0 q1 q2 q3 : Nat) (w1 w2 w3 w4 lg md : Nat → Nat) : PAx cy h0 q1 q2 q3 w1 w2 w3 w4 lg md 0 := ⟨_, rfl, eqvE_r⟩
theorem pa_1 (cy : Nat → ClassId) (h0 q1 q2 q3 : Nat) (w1 w2 w3 w4 lg md : Nat → Nat) : PAx cy h0 q1 q2 q3 w1 w2 w3 w4 lg md 1 := ⟨_, rfl, eqvE_r⟩
theorem pa_2 (cy : Nat → ClassId) (h0 q1 q2 q3 : Nat) (w1 w2 w3 w4 lg md : Nat → Nat) : PAx cy h0 q1 q2 q3 w1 w2 w3 w4 lg md 2 := ⟨_, rfl, eqvE_r⟩
theorem pa_3 (cy : Nat → ClassId) (h0 q1 q2 q3 : Nat) (w1 w2 w3 w4 lg md : Nat → Nat) : PAx cy h0 q1 q2 q3 w1 w2 w3 w4 lg md 3 := ⟨_, rfl, eqvE_r⟩
theorem pa_4 (cy : Nat → ClassId) (h0 q1 q2 q3 : Nat) (w1 w2 w3 w4 lg md : Nat → Nat) : PAx cy h0 q1 q2 q3 w1 w2 w3 w4 lg md 4 := ⟨_, rfl, eqvE_r⟩
theorem pa_5 (cy : Nat → ClassId) (h0 q1 q2 q3 : Nat) (w1 w2 w3 w4 lg md : Nat → Nat) : PAx cy h0 q1 q2 q3 w1 w2 w3 w4 lg md 5 := ⟨_, rfl, eqvE_r⟩
theorem pa_6 (cy : Nat → ClassId) (h0 q1 q2 q3 : Nat) (w1 w2 w3 w4 lg md : Nat → Nat) : PAx cy h0 q1 q2 q3 w1 w2 w3 w4 lg md 6 := ⟨_, rfl, eqvE_r⟩
theorem pa_7 (cy : Nat → ClassId) (h0 q1 q2 q3 : Nat) (w1 w2 w3 w4 lg md : Nat → Nat) : PAx cy h0 q1 q2 q3 w1 w2 w3 w4 lg md 7 := ⟨_, rfl, eqvE_r⟩
theorem pa_8 (cy : Nat → ClassId) (h0 q1 q2 q3 : Nat) (w1 w2 w3 w4 lg md : Nat → Nat) : PAx cy h0 q1 q2 q3 w1 w2 w3 w4 lg md 8 := ⟨_, rfl, eqvE_r⟩
theorem pa_9 (cy : Nat → ClassId) (h0 q1 q2 q3 : Nat) (w1 w2 w3 w4 lg md : Nat → Nat) : PAx cy h0 q1 q2 q3 w1 w2 w3 w4 lg md 9 := ⟨_, rfl, eqvE_r⟩
theorem pa_10 (cy : Nat → ClassId) (h0 q1 q2 q3 : Nat) (w1 w2 w3 w4 lg md : Nat → Nat) : PAx cy h0 q1 q2 q3 w1 w2 w3 w4 lg md 10 := ⟨_, rfl, eqvE_q (n := 6) (fun j hj => by rcases (show j = 0 ∨ j = 1 ∨ j = 2 ∨ j = 3 ∨ j = 4 ∨ j = 5 by omega) with rfl | rfl | rfl | rfl | rfl | rfl <;> rfl)⟩
theorem pa_11 (cy : Nat → ClassId) (h0 q1 q2 q3 : Nat) (w1 w2 w3 w4 lg md : Nat → Nat) : PAx cy h0 q1 q2 q3 w1 w2 w3 w4 lg md 11 := ⟨_, rfl, eqvE_r⟩
theorem pa_12 (cy : Nat → ClassId) (h0 q1 q2 q3 : Nat) (w1 w2 w3 w4 lg md : Nat → Nat) : PAx cy h0 q1 q2 q3 w1 w2 w3 w4 lg md 12 := ⟨_, rfl, eqvE_r⟩
theorem pa_13 (cy : Nat → ClassId) (h0 q1 q2 q3 : Nat) (w1 w2 w3 w4 lg md : Nat → Nat) : PAx cy h0 q1 q2 q3 w1 w2 w3 w4 lg md 13 := ⟨_, rfl, eqvE_r⟩
theorem pa_14 (cy : Nat → ClassId) (h0 q1 q2 q3 : Nat) (w1 w2 w3 w4 lg md : Nat → Nat) : PAx cy h0 q1 q2 q3 w1 w2 w3 w4 lg md 14 := ⟨_, rfl, eqvE_r⟩
theorem pa_15 (cy : Nat → ClassId) (h0 q1 q2 q3 : Nat) (w1 w2 w3 w4 lg md : Nat → Nat) : PAx cy h0 q1 q2 q3 w1 w2 w3 w4 lg md 15 := ⟨_, rfl, eqvE_r⟩
theorem pa_16 (cy : Nat → ClassId) (h0 q1 q2 q3 : Nat) (w1 w2 w3 w4 lg md : Nat → Nat) : PAx cy h0 q1 q2 q3 w1 w2 w3 w4 lg md 16 := ⟨_, rfl, eqvE_r⟩
theorem pa_17 (cy : Nat → ClassId) (h0 q1 q2 q3 : Nat) (w1 w2 w3 w4 lg md : Nat → Nat) : PAx cy h0 q1 q2 q3 w1 w2 w3 w4 lg md 17 := ⟨_, rfl, eqvE_r⟩
theorem pa_18 (cy : Nat → ClassId) (h0 q1 q2 q3 : Nat) (w1 w2 w3 w4 lg md : Nat → Nat) : PAx cy h0 q1 q2 q3 w1 w2 w3 w4 lg md 18 := ⟨_, rfl, eqvE_r⟩
theorem pa_19 (cy : Nat → ClassId) (h0 q1 q2 q3 : Nat) (w1 w2 w3 w4 lg md : Nat → Nat) : PAx cy h0 q1 q2 q3 w1 w2 w3 w4 lg md 19 := ⟨_, rfl, eqvE_r⟩
theorem pa_20 (cy : Nat → ClassId) (h0 q1 q2 q3 : Nat) (w1 w2 w3 w4 lg md : Nat → Nat) : PAx cy h0 q1 q2 q3 w1 w2 w3 w4 lg md 20 := ⟨_, rfl, eqvE_r⟩
theorem pa_21 (cy : Nat → ClassId) (h0 q1 q2 q3 : Nat) (w1 w2 w3 w4 lg md : Nat → Nat) : PAx cy h0 q1 q2 q3 w1 w2 w3 w4 lg md 21 := ⟨_, rfl, eqvE_r⟩
theorem pa_22 (cy : Nat → ClassId) (h0 q1 q2 q3 : Nat) (w1 w2 w3 w4 lg md : Nat → Nat) : PAx cy h0 q1 q2 q3 w1 w2 w3 w4 lg md 22 := ⟨_, rfl, eqvE_r⟩
theorem pa_23 (cy : Nat → ClassId) (h0 q1 q2 q3 : Nat) (w1 w2 w3 w4 lg md : Nat → Nat) : PAx cy h0 q1 q2 q3 w1 w2 w3 w4 lg md 23 := ⟨_, rfl, eqvE_r⟩
theorem pa_24 (cy : Nat → ClassId) (h0 q1 q2 q3 : Nat) (w1 w2 w3 w4 lg md : Nat → Nat) : PAx cy h0 q1 q2 q3 w1 w2 w3 w4 lg md 24 := ⟨_, rfl, eqvE_r⟩
theorem pa_25 (cy : Nat → ClassId) (h0 q1 q2 q3 : Nat) (w1 w2 w3 w4 lg md : Nat → Nat) : PAx cy h0 q1 q2 q3 w1 w2 w3 w4 lg md 25 := ⟨_, rfl, eqvE_r⟩
theorem pa_26 (cy : Nat → ClassId) (h0 q1 q2 q3 : Nat) (w1 w2 w3 w4 lg md : Nat → Nat) : PAx cy h0 q1 q2 q3 w1 w2 w3 w4 lg md 26 := ⟨_, rfl, eqvE_r⟩
theorem pa_27 (cy : Nat → ClassId) (h0 q1 q2 q3 : Nat) (w1 w2 w3 w4 lg md : Nat → Nat) : PAx cy h0 q1 q2 q3 w1 w2 w3 w4 lg md 27 := ⟨_, rfl, eqvE_r⟩
theorem pa_28 (cy : Nat → ClassId) (h0 q1 q2 q3 : Nat) (w1 w2 w3 w4 lg md : Nat → Nat) : PAx cy h0 q1 q2 q3 w1 w2 w3 w4 lg md 28 := ⟨_, rfl, eqvE_r⟩
theorem pa_29 (cy : Nat → ClassId) (h0 q1 q2 q3 : Nat) (w1 w2 w3 w4 lg md : Nat → Nat) : PAx cy h0 q1 q2 q3 w1 w2 w3 w4 lg md 29 := ⟨_, rfl, eqvE_r⟩
theorem pa_30 (cy : Nat → ClassId) (h0 q1 q2 q3 : Nat) (w1 w2 w3 w4 lg md : Nat → Nat) : PAx cy h0 q1 q2 q3 w1 w2 w3 w4 lg md 30 := ⟨_, rfl, eqvE_r⟩
theorem pa_31 (cy : Nat → ClassId) (h0 q1 q2 q3 : Nat) (w1 w2 w3 w4 lg md : Nat → Nat) : PAx cy h0 q1 q2 q3 w1 w2 w3 w4 lg md 31 := ⟨_, rfl, eqvE_r⟩
theorem pa_32 (cy : Nat → ClassId) (h0 q1 q2 q3 : Nat) (w1 w2 w3 w4 lg md : Nat → Nat) : PAx cy h0 q1 q2 q3 w1 w2 w3 w4 lg md 32 := ⟨_, rfl, eqvE_r⟩
theorem pa_33 (cy : Nat → ClassId) (h0 q1 q2 q3 : Nat) (w1 w2 w3 w4 lg md : Nat → Nat) : PAx cy h0 q1 q2 q3 w1 w2 w3 w4 lg md 33 := ⟨_, rfl, eqvE_r⟩
theorem pa_34 (cy : Nat → ClassId) (h0 q1 q2 q3 : Nat) (w1 w2 w3 w4 lg md : Nat → Nat) : PAx cy h0 q1 q2 q3 w1 w2 w3 w4 lg md 34 := ⟨_, rfl, eqvE_r⟩
theorem pa_35 (cy : Nat → ClassId) (h0 q1 q2 q3 : Nat) (w1 w2 w3 w4 lg md : Nat → Nat) : PAx cy h0 q1 q2 q3 w1 w2 w3 w4 lg md 35 := ⟨_, rfl, eqvE_r⟩
theorem pa_36 (cy : Nat → ClassId) (h0 q1 q2 q3 : Nat) (w1 w2 w3 w4 lg md : Nat → Nat) : PAx cy h0 q1 q2 q3 w1 w2 w3 w4 lg md 36 := ⟨_, rfl, eqvE_r⟩
theorem pa_37 (cy : Nat → ClassId) (h0 q1 q2 q3 : Nat) (w1 w2 w3 w4 lg md : Nat → Nat) : PAx cy h0 q1 q2 q3 w1 w2 w3 w4 lg md 37 := ⟨_, rfl, eqvE_r⟩
theorem pa_38 (cy : Nat → ClassId) (h0 q1 q2 q3 : Nat) (w1 w2 w3 w4 lg md : Nat → Nat) : PAx cy h0 q1 q2 q3 w1 w2 w3 w4 lg md 38 := ⟨_, rfl, eqvE_r⟩
theorem pa_39 (cy : Nat → ClassId) (h0 q1 q2 q3 : Nat) (w1 w2 w3 w4 lg md : Nat → Nat) : PAx cy h0 q1 q2 q3 w1 w2 w3 w4 lg md 39 := ⟨_, rfl, eqvE_r⟩
theorem pa_40 (cy : Nat → ClassId) (h0 q1 q2 q3 : Nat) (w1 w2 w3 w4 lg md : Nat → Nat) : PAx cy h0 q1 q2 q3 w1 w2 w3 w4 lg md 40 := ⟨_, rfl, eqvE_r⟩
theorem pa_41 (cy : Nat → ClassId) (h0 q1 q2 q3 : Nat) (w1 w2 w3 w4 lg md : Nat → Nat) : PAx cy h0 q1 q2 q3 w1 w2 w3 w4 lg md 41 := ⟨_, rfl, eqvE_r⟩
theorem pa_42 (cy : Nat → ClassId) (h0 q1 q2 q3 : Nat) (w1 w2 w3 w4 lg md : Nat → Nat) : PAx cy h0 q1 q2 q3 w1 w2 w3 w4 lg md 42 := ⟨_, rfl, eqvE_r⟩
theorem pa_43 (cy : Nat → ClassId) (h0 q1 q2 q3 : Nat) (w1 w2 w3 w4 lg md : Nat → Nat) : PAx cy h0 q1 q2 q3 w1 w2 w3 w4 lg md 43 := ⟨_, rfl, eqvE_r⟩
theorem pa_44 (cy : Nat → ClassId) (h0 q1 q2 q3 : Nat) (w1 w2 w3 w4 lg md : Nat → Nat) : PAx cy h0 q1 q2 q3 w1 w2 w3 w4 lg md 44 := ⟨_, rfl, eqvE_r⟩
theorem pa_45 (cy : Nat → ClassId) (h0 q1 q2 q3 : Nat) (w1 w2 w3 w4 lg md : Nat → Nat) : PAx cy h0 q1 q2 q3 w1 w2 w3 w4 lg md 45 := ⟨_, rfl, eqvE_r⟩
theorem pa_46 (cy : Nat → ClassId) (h0 q1 q2 q3 : Nat) (w1 w2 w3 w4 lg md : Nat → Nat) : PAx cy h0 q1 q2 q3 w1 w2 w3 w4 lg md 46 := ⟨_, rfl, eqvE_r⟩
theorem pa_47 (cy : Nat → ClassId) (h0 q1 q2 q3 : Nat) (w1 w2 w3 w4 lg md : Nat → Nat) : PAx cy h0 q1 q2 q3 w1 w2 w3 w4 lg md 47 := ⟨_, rfl, eqvE_q (n := 6) (fun j hj => by rcases (show j = 0 ∨ j = 1 ∨ j = 2 ∨ j = 3 ∨ j = 4 ∨ j = 5 by omega) with rfl | rfl | rfl | rfl | rfl | rfl <;> rfl)⟩
theorem pa_48 (cy : Nat → ClassId) (h0 q1 q2 q3 : Nat) (w1 w2 w3 w4 lg md : Nat → Nat) : PAx cy h0 q1 q2 q3 w1 w2 w3 w4 lg md 48 := ⟨_, rfl, eqvE_r⟩
theorem pa_49 (cy : Nat → ClassId) (h0 q1 q2 q3 : Nat) (w1 w2 w3 w4 lg md : Nat → Nat) : PAx cy h0 q1 q2 q3 w1 w2 w3 w4 lg md 49 := ⟨_, rfl, eqvE_r⟩
theorem pa_50 (cy : Nat → ClassId) (h0 q1 q2 q3 : Nat) (w1 w2 w3 w4 lg md : Nat → Nat) : PAx cy h0 q1 q2 q3 w1 w2 w3 w4 lg md 50 := ⟨_, rfl, eqvE_r⟩
theorem pa_51 (cy : Nat → ClassId) (h0 q1 q2 q3 : Nat) (w1 w2 w3 w4 lg md : Nat → Nat) : PAx cy h0 q1 q2 q3 w1 w2 w3 w4 lg md 51 := ⟨_, rfl, eqvE_r⟩
theorem pa_52 (cy : Nat → ClassId) (h0 q1 q2 q3 : Nat) (w1 w2 w3 w4 lg md : Nat → Nat) : PAx cy h0 q1 q2 q3 w1 w2 w3 w4 lg md 52 := ⟨_, rfl, eqvE_r⟩
theorem pa_53 (cy : Nat → ClassId) (h0 q1 q2 q3 : Nat) (w1 w2 w3 w4 lg md : Nat → Nat) : PAx cy h0 q1 q2 q3 w1 w2 w3 w4 lg md 53 := ⟨_, rfl, eqvE_r⟩
theorem pa_54 (cy : Nat → ClassId) (h0 q1 q2 q3 : Nat) (w1 w2 w3 w4 lg md : Nat → Nat) : PAx cy h0 q1 q2 q3 w1 w2 w3 w4 lg md 54 := ⟨_, rfl, eqvE_r⟩
theorem pa_55 (cy : Nat → ClassId) (h0 q1 q2 q3 : Nat) (w1 w2 w3 w4 lg md : Nat → Nat) : PAx cy h0 q1 q2 q3 w1 w2 w3 w4 lg md 55 := ⟨_, rfl, eqvE_r⟩
theorem pa_56 (cy : Nat → ClassId) (h0 q1 q2 q3 : Nat) (w1 w2 w3 w4 lg md : Nat → Nat) : PAx cy h0 q1 q2 q3 w1 w2 w3 w4 lg md 56 := ⟨_, rfl, eqvE_r⟩
theorem pa_57 (cy : Nat → ClassId) (h0 q1 q2 q3 : Nat) (w1 w2 w3 w4 lg md : Nat → Nat) : PAx cy h0 q1 q2 q3 w1 w2 w3 w4 lg md 57 := ⟨_, rfl, eqvE_r⟩
theorem pa_58 (cy : Nat → ClassId) (h0 q1 q2 q3 : Nat) (w1 w2 w3 w4 lg md : Nat → Nat) : PAx cy h0 q1 q2 q3 w1 w2 w3 w4 lg md 58 := ⟨_, rfl, eqvE_r⟩
theorem pa_59 (cy : Nat → ClassId) (h0 q1 q2 q3 : Nat) (w1 w2 w3 w4 lg md : Nat → Nat) : PAx cy h0 q1 q2 q3 w1 w2 w3 w4 lg md 59 := ⟨_, rfl, eqvE_r⟩
theorem pa_60 (cy : Nat → ClassId) (h0 q1 q2 q3 : Nat) (w1 w2 w3 w4 lg md : Nat → Nat) : PAx cy h0 q1 q2 q3 w1 w2 w3 w4 lg md 60 := ⟨_, rfl, eqvE_r⟩
theorem pa_61 (cy : Nat → ClassId) (h0 q1 q2 q3 : Nat) (w1 w2 w3 w4 lg md : Nat → Nat) : PAx cy h0 q1 q2 q3 w1 w2 w3 w4 lg md 61 := ⟨_, rfl, eqvE_r⟩
theorem pa_62 (cy : Nat → ClassId) (h0 q1 q2 q3 : Nat) (w1 w2 w3 w4 lg md : Nat → Nat) : PAx cy h0 q1 q2 q3 w1 w2 w3 w4 lg md 62 := ⟨_, rfl, eqvE_r⟩
theorem pa_63 (cy : Nat → ClassId) (h0 q1 q2 q3 : Nat) (w1 w2 w3 w4 lg md : Nat → Nat) : PAx cy h0 q1 q2 q3 w1 w2 w3 w4 lg md 63 := ⟨_, rfl, eqvE_r⟩
theorem pa_64 (cy : Nat → ClassId) (h0 q1 q2 q3 : Nat) (w1 w2 w3 w4 lg md : Nat → Nat) : PAx cy h0 q1 q2 q3 w1 w2 w3 w4 lg md 64 := ⟨_, rfl, eqvE_r⟩
theorem pa_65 (cy : Nat → ClassId) (h0 q1 q2 q3 : Nat) (w1 w2 w3 w4 lg md : Nat → Nat) : PAx cy h0 q1 q2 q3 w1 w2 w3 w4 lg md 65 := ⟨_, rfl, eqvE_r⟩
theorem pa_66 (cy : Nat → ClassId) (h0 q1 q2 q3 : Nat) (w1 w2 w3 w4 lg md : Nat → Nat) : PAx cy h0 q1 q2 q3 w1 w2 w3 w4 lg md 66 := ⟨_, rfl, eqvE_r⟩
theorem pa_67 (cy : Nat → ClassId) (h0 q1 q2 q3 : Nat) (w1 w2 w3 w4 lg md : Nat → Nat) : PAx cy h0 q1 q2 q3 w1 w2 w3 w4 lg md 67 := ⟨_, rfl, eqvE_r⟩
theorem pa_68 (cy : Nat → ClassId) (h0 q1 q2 q3 : Nat) (w1 w2 w3 w4 lg md : Nat → Nat) : PAx cy h0 q1 q2 q3 w1 w2 w3 w4 lg md 68 := ⟨_, rfl, eqvE_r⟩
theorem pa_69 (cy : Nat → ClassId) (h0 q1 q2 q3 : Nat) (w1 w2 w3 w4 lg md : Nat → Nat) : PAx cy h0 q1 q2 q3 w1 w2 w3 w4 lg md 69 := ⟨_, rfl, eqvE_r⟩
theorem pa_70 (cy : Nat → ClassId) (h0 q1 q2 q3 : Nat) (w1 w2 w3 w4 lg md : Nat → Nat) : PAx cy h0 q1 q2 q3 w1 w2 w3 w4 lg md 70 := ⟨_, rfl, eqvE_r⟩
theorem pa_71 (cy : Nat → ClassId) (h0 q1 q2 q3 : Nat) (w1 w2 w3 w4 lg md : Nat → Nat) : PAx cy h0 q1 q2 q3 w1 w2 w3 w4 lg md 71 := ⟨_, rfl, eqvE_r⟩
theorem pa_72 (cy : Nat → ClassId) (h0 q1 q2 q3 : Nat) (w1 w2 w3 w4 lg md : Nat → Nat) : PAx cy h0 q1 q2 q3 w1 w2 w3 w4 lg md 72 := ⟨_, rfl, eqvE_r⟩
theorem pa_73 (cy : Nat → ClassId) (h0 q1 q2 q3 : Nat) (w1 w2 w3 w4 lg md : Nat → Nat) : PAx cy h0 q1 q2 q3 w1 w2 w3 w4 lg md 73 := ⟨_, rfl, eqvE_r⟩
theorem pa_74 (cy : Nat → ClassId) (h0 q1 q2 q3 : Nat) (w1 w2 w3 w4 lg md : Nat → Nat) : PAx cy h0 q1 q2 q3 w1 w2 w3 w4 lg md 74 := ⟨_, rfl, eqvE_r⟩
theorem pa_75 (cy : Nat → ClassId) (h0 q1 q2 q3 : Nat) (w1 w2 w3 w4 lg md : Nat → Nat) : PAx cy h0 q1 q2 q3 w1 w2 w3 w4 lg md 75 := ⟨_, rfl, eqvE_q (n := 2) (fun j hj => by rcases (show j = 0 ∨ j = 1 by omega) with rfl | rfl <;> rfl)⟩
theorem pa_76 (cy : Nat → ClassId) (h0 q1 q2 q3 : Nat) (w1 w2 w3 w4 lg md : Nat → Nat) : PAx cy h0 q1 q2 q3 w1 w2 w3 w4 lg md 76 := ⟨_, rfl, eqvE_r⟩
theorem pa_77 (cy : Nat → ClassId) (h0 q1 q2 q3 : Nat) (w1 w2 w3 w4 lg md : Nat → Nat) : PAx cy h0 q1 q2 q3 w1 w2 w3 w4 lg md 77 := ⟨_, rfl, eqvE_r⟩
theorem pa_78 (cy : Nat → ClassId) (h0 q1 q2 q3 : Nat) (w1 w2 w3 w4 lg md : Nat → Nat) : PAx cy h0 q1 q2 q3 w1 w2 w3 w4 lg md 78 := ⟨_, rfl, eqvE_r⟩
theorem pa_79 (cy : Nat → ClassId) (h0 q1 q2 q3 : Nat) (w1 w2 w3 w4 lg md : Nat → Nat) : PAx cy h0 q1 q2 q3 w1 w2 w3 w4 lg md 79 := ⟨_, rfl, eqvE_r⟩
theorem pa_80 (cy : Nat → ClassId) (h0 q1 q2 q3 : Nat) (w1 w2 w3 w4 lg md : Nat → Nat) : PAx cy h0 q1 q2 q3 w1 w2 w3 w4 lg md 80 := ⟨_, rfl, eqvE_r⟩
theorem pa_81 (cy : Nat → ClassId) (h0 q1 q2 q3 : Nat) (w1 w2 w3 w4 lg md : Nat → Nat) : PAx cy h0 q1 q2 q3 w1 w2 w3 w4 lg md 81 := ⟨_, rfl, eqvE_r⟩
theorem pa_82 (cy : Nat → ClassId) (h0 q1 q2 q3 : Nat) (w1 w2 w3 w4 lg md : Nat → Nat) : PAx cy h0 q1 q2 q3 w1 w2 w3 w4 lg md 82 := ⟨_, rfl, eqvE_r⟩
theorem pa_83 (cy : Nat → ClassId) (h0 q1 q2 q3 : Nat) (w1 w2 w3 w4 lg md : Nat → Nat) : PAx cy h0 q1 q2 q3 w1 w2 w3 w4 lg md 83 := ⟨_, rfl, eqvE_r⟩
theorem pa_84 (cy : Nat → ClassId) (h0 q1 q2 q3 : Nat) (w1 w2 w3 w4 lg md : Nat → Nat) : PAx cy h0 q1 q2 q3 w1 w2 w3 w4 lg md 84 := ⟨_, rfl, eqvE_r⟩
theorem pa_85 (cy : Nat → ClassId) (h0 q1 q2 q3 : Nat) (w1 w2 w3 w4 lg md : Nat → Nat) : PAx cy h0 q1 q2 q3 w1 w2 w3 w4 lg md 85 := ⟨_, rfl, eqvE_q (n := 6) (fun j hj => by rcases (show j = 0 ∨ j = 1 ∨ j = 2 ∨ j = 3 ∨ j = 4 ∨ j = 5 by omega) with rfl | rfl | rfl | rfl | rfl | rfl <;> rfl)⟩
theorem pa_86 (cy : Nat → ClassId) (h0 q1 q2 q3 : Nat) (w1 w2 w3 w4 lg md : Nat → Nat) : PAx cy h0 q1 q2 q3 w1 w2 w3 w4 lg md 86 := ⟨_, rfl, eqvE_r⟩
theorem pa_87 (cy : Nat → ClassId) (h0 q1 q2 q3 : Nat) (w1 w2 w3 w4 lg md : Nat → Nat) : PAx cy h0 q1 q2 q3 w1 w2 w3 w4 lg md 87 := ⟨_, rfl, eqvE_r⟩
theorem pa_88 (cy : Nat → ClassId) (h0 q1 q2 q3 : Nat) (w1 w2 w3 w4 lg md : Nat → Nat) : PAx cy h0 q1 q2 q3 w1 w2 w3 w4 lg md 88 := ⟨_, rfl, eqvE_r⟩
theorem pa_89 (cy : Nat → ClassId) (h0 q1 q2 q3 : Nat) (w1 w2 w3 w4 lg md : Nat → Nat) : PAx cy h0 q1 q2 q3 w1 w2 w3 w4 lg md 89 := ⟨_, rfl, eqvE_r⟩
theorem pa_90 (cy : Nat → ClassId) (h0 q1 q2 q3 : Nat) (w1 w2 w3 w4 lg md : Nat → Nat) : PAx cy h0 q1 q2 q3 w1 w2 w3 w4 lg md 90 := ⟨_, rfl, eqvE_r⟩
theorem pa_91 (cy : Nat → ClassId) (h0 q1 q2 q3 : Nat) (w1 w2 w3 w4 lg md : Nat → Nat) : PAx cy h0 q1 q2 q3 w1 w2 w3 w4 lg md 91 := ⟨_, rfl, eqvE_r⟩
theorem pa_92 (cy : Nat → ClassId) (h0 q1 q2 q3 : Nat) (w1 w2 w3 w4 lg md : Nat → Nat) : PAx cy h0 q1 q2 q3 w1 w2 w3 w4 lg md 92 := ⟨_, rfl, eqvE_r⟩
theorem pa_93 (cy : Nat → ClassId) (h0 q1 q2 q3 : Nat) (w1 w2 w3 w4 lg md : Nat → Nat) : PAx cy h0 q1 q2 q3 w1 w2 w3 w4 lg md 93 := ⟨_, rfl, eqvE_r⟩
theorem pa_94 (cy : Nat → ClassId) (h0 q1 q2 q3 : Nat) (w1 w2 w3 w4 lg md : Nat → Nat) : PAx cy h0 q1 q2 q3 w1 w2 w3 w4 lg md 94 := ⟨_, rfl, eqvE_r⟩
theorem pa_95 (cy : Nat → ClassId) (h0 q1 q2 q3 : Nat) (w1 w2 w3 w4 lg md : Nat → Nat) : PAx cy h0 q1 q2 q3 w1 w2 w3 w4 lg md 95 := ⟨_, rfl, eqvE_r⟩
theorem pa_96 (cy : Nat → ClassId) (h0 q1 q2 q3 : Nat) (w1 w2 w3 w4 lg md : Nat → Nat) : PAx cy h0 q1 q2 q3 w1 w2 w3 w4 lg md 96 := ⟨_, rfl, eqvE_r⟩
theorem pa_97 (cy : Nat → ClassId) (h0 q1 q2 q3 : Nat) (w1 w2 w3 w4 lg md : Nat → Nat) : PAx cy h0 q1 q2 q3 w1 w2 w3 w4 lg md 97 := ⟨_, rfl, eqvE_r⟩
theorem pa_98 (cy : Nat → ClassId) (h0 q1 q2 q3 : Nat) (w1 w2 w3 w4 lg md : Nat → Nat) : PAx cy h0 q1 q2 q3 w1 w2 w3 w4 lg md 98 := ⟨_, rfl, eqvE_r⟩
theorem pa_99 (cy : Nat → ClassId) (h0 q1 q2 q3 : Nat) (w1 w2 w3 w4 lg md : Nat → Nat) : PAx cy h0 q1 q2 q3 w1 w2 w3 w4 lg md 99 := ⟨_, rfl, eqvE_r⟩
theorem pa_100 (cy : Nat → ClassId) (h0 q1 q2 q3 : Nat) (w1 w2 w3 w4 lg md : Nat → Nat) : PAx cy h0 q1 q2 q3 w1 w2 w3 w4 lg md 100 := ⟨_, rfl, eqvE_r⟩
theorem pa_101 (cy : Nat → ClassId) (h0 q1 q2 q3 : Nat) (w1 w2 w3 w4 lg md : Nat → Nat) : PAx cy h0 q1 q2 q3 w1 w2 w3 w4 lg md 101 := ⟨_, rfl, eqvE_r⟩
theorem pa_102 (cy : Nat → ClassId) (h0 q1 q2 q3 : Nat) (w1 w2 w3 w4 lg md : Nat → Nat) : PAx cy h0 q1 q2 q3 w1 w2 w3 w4 lg md 102 := ⟨_, rfl, eqvE_r⟩
theorem pa_103 (cy : Nat → ClassId) (h0 q1 q2 q3 : Nat) (w1 w2 w3 w4 lg md : Nat → Nat) : PAx cy h0 q1 q2 q3 w1 w2 w3 w4 lg md 103 := ⟨_, rfl, eqvE_r⟩
theorem pa_104 (cy : Nat → ClassId) (h0 q1 q2 q3 : Nat) (w1 w2 w3 w4 lg md : Nat → Nat) : PAx cy h0 q1 q2 q3 w1 w2 w3 w4 lg md 104 := ⟨_, rfl, eqvE_r⟩
theorem pa_105 (cy : Nat → ClassId) (h0 q1 q2 q3 : Nat) (w1 w2 w3 w4 lg md : Nat → Nat) : PAx cy h0 q1 q2 q3 w1 w2 w3 w4 lg md 105 := ⟨_, rfl, eqvE_r⟩
theorem pa_106 (cy : Nat → ClassId) (h0 q1 q2 q3 : Nat) (w1 w2 w3 w4 lg md : Nat → Nat) : PAx cy h0 q1 q2 q3 w1 w2 w3 w4 lg md 106 := ⟨_, rfl, eqvE_r⟩
theorem pa_107 (cy : Nat → ClassId) (h0 q1 q2 q3 : Nat) (w1 w2 w3 w4 lg md : Nat → Nat) : PAx cy h0 q1 q2 q3 w1 w2 w3 w4 lg md 107 := ⟨_, rfl, eqvE_r⟩
theorem pa_108 (cy : Nat → ClassId) (h0 q1 q2 q3 : Nat) (w1 w2 w3 w4 lg md : Nat → Nat) : PAx cy h0 q1 q2 q3 w1 w2 w3 w4 lg md 108 := ⟨_, rfl, eqvE_r⟩
theorem pa_109 (cy : Nat → ClassId) (h0 q1 q2 q3 : Nat) (w1 w2 w3 w4 lg md : Nat → Nat) : PAx cy h0 q1 q2 q3 w1 w2 w3 w4 lg md 109 := ⟨_, rfl, eqvE_r⟩
theorem pa_110 (cy : Nat → ClassId) (h0 q1 q2 q3 : Nat) (w1 w2 w3 w4 lg md : Nat → Nat) : PAx cy h0 q1 q2 q3 w1 w2 w3 w4 lg md 110 := ⟨_, rfl, eqvE_r⟩
theorem pa_111 (cy : Nat → ClassId) (h0 q1 q2 q3 : Nat) (w1 w2 w3 w4 lg md : Nat → Nat) : PAx cy h0 q1 q2 q3 w1 w2 w3 w4 lg md 111 := ⟨_, rfl, eqvE_r⟩
theorem pa_112 (cy : Nat → ClassId) (h0 q1 q2 q3 : Nat) (w1 w2 w3 w4 lg md : Nat → Nat) : PAx cy h0 q1 q2 q3 w1 w2 w3 w4 lg md 112 := ⟨_, rfl, eqvE_r⟩
theorem pa_113 (cy : Nat → ClassId) (h0 q1 q2 q3 : Nat) (w1 w2 w3 w4 lg md : Nat → Nat) : PAx cy h0 q1 q2 q3 w1 w2 w3 w4 lg md 113 := ⟨_, rfl, eqvE_r⟩
theorem pa_114 (cy : Nat → ClassId) (h0 q1 q2 q3 : Nat) (w1 w2 w3 w4 lg md : Nat → Nat) : PAx cy h0 q1 q2 q3 w1 w2 w3 w4 lg md 114 := ⟨_, rfl, eqvE_r⟩
theorem pa_115 (cy : Nat → ClassId) (h0 q1 q2 q3 : Nat) (w1 w2 w3 w4 lg md : Nat → Nat) : PAx cy h0 q1 q2 q3 w1 w2 w3 w4 lg md 115 := ⟨_, rfl, eqvE_r⟩
theorem pa_116 (cy : Nat → ClassId) (h0 q1 q2 q3 : Nat) (w1 w2 w3 w4 lg md : Nat → Nat) : PAx cy h0 q1 q2 q3 w1 w2 w3 w4 lg md 116 := ⟨_, rfl, eqvE_r⟩
theorem pa_117 (cy : Nat → ClassId) (h0 q1 q2 q3 : Nat) (w1 w2 w3 w4 lg md : Nat → Nat) : PAx cy h0 q1 q2 q3 w1 w2 w3 w4 lg md 117 := ⟨_, rfl, eqvE_r⟩
theorem pa_118 (cy : Nat → ClassId) (h0 q1 q2 q3 : Nat) (w1 w2 w3 w4 lg md : Nat → Nat) : PAx cy h0 q1 q2 q3 w1 w2 w3 w4 lg md 118 := ⟨_, rfl, eqvE_r⟩
theorem pa_119 (cy : Nat → ClassId) (h0 q1 q2 q3 : Nat) (w1 w2 w3 w4 lg md : Nat → Nat) : PAx cy h0 q1 q2 q3 w1 w2 w3 w4 lg md 119 := ⟨_, rfl, eqvE_r⟩
theorem pa_120 (cy : Nat → ClassId) (h0 q1 q2 q3 : Nat) (w1 w2 w3 w4 lg md : Nat → Nat) : PAx cy h0 q1 q2 q3 w1 w2 w3 w4 lg md 120 := ⟨_, rfl, eqvE_r⟩
theorem pa_121 (cy : Nat → ClassId) (h0 q1 q2 q3 : Nat) (w1 w2 w3 w4 lg md : Nat → Nat) : PAx cy h0 q1 q2 q3 w1 w2 w3 w4 lg md 121 := ⟨_, rfl, eqvE_r⟩
theorem pa_122 (cy : Nat → ClassId) (h0 q1 q2 q3 : Nat) (w1 w2 w3 w4 lg md : Nat → Nat) : PAx cy h0 q1 q2 q3 w1 w2 w3 w4 lg md 122 := ⟨_, rfl, eqvE_q (n := 6) (fun j hj => by rcases (show j = 0 ∨ j = 1 ∨ j = 2 ∨ j = 3 ∨ j = 4 ∨ j = 5 by omega) with rfl | rfl | rfl | rfl | rfl | rfl <;> rfl)⟩
theorem pa_123 (cy : Nat → ClassId) (h0 q1 q2 q3 : Nat) (w1 w2 w3 w4 lg md : Nat → Nat) : PAx cy h0 q1 q2 q3 w1 w2 w3 w4 lg md 123 := ⟨_, rfl, eqvE_r⟩
theorem pa_124 (cy : Nat → ClassId) (h0 q1 q2 q3 : Nat) (w1 w2 w3 w4 lg md : Nat → Nat) : PAx cy h0 q1 q2 q3 w1 w2 w3 w4 lg md 124 := ⟨_, rfl, eqvE_r⟩
theorem pa_125 (cy : Nat → ClassId) (h0 q1 q2 q3 : Nat) (w1 w2 w3 w4 lg md : Nat → Nat) : PAx cy h0 q1 q2 q3 w1 w2 w3 w4 lg md 125 := ⟨_, rfl, eqvE_r⟩
theorem pa_126 (cy : Nat → ClassId) (h0 q1 q2 q3 : Nat) (w1 w2 w3 w4 lg md : Nat → Nat) : PAx cy h0 q1 q2 q3 w1 w2 w3 w4 lg md 126 := ⟨_, rfl, eqvE_r⟩
theorem pa_127 (cy : Nat → ClassId) (h0 q1 q2 q3 : Nat) (w1 w2 w3 w4 lg md : Nat → Nat) : PAx cy h0 q1 q2 q3 w1 w2 w3 w4 lg md 127 := ⟨_, rfl, eqvE_r⟩
theorem pa_128 (cy : Nat → ClassId) (h0 q1 q2 q3 : Nat) (w1 w2 w3 w4 lg md : Nat → Nat) : PAx cy h0 q1 q2 q3 w1 w2 w3 w4 lg md 128 := ⟨_, rfl, eqvE_r⟩
theorem pa_129 (cy : Nat → ClassId) (h0 q1 q2 q3 : Nat) (w1 w2 w3 w4 lg md : Nat → Nat) : PAx cy h0 q1 q2 q3 w1 w2 w3 w4 lg md 129 := ⟨_, rfl, eqvE_r⟩
theorem pa_130 (cy : Nat → ClassId) (h0 q1 q2 q3 : Nat) (w1 w2 w3 w4 lg md : Nat → Nat) : PAx cy h0 q1 q2 q3 w1 w2 w3 w4 lg md 130 := ⟨_, rfl, eqvE_r⟩
theorem pa_131 (cy : Nat → ClassId) (h0 q1 q2 q3 : Nat) (w1 w2 w3 w4 lg md : Nat → Nat) : PAx cy h0 q1 q2 q3 w1 w2 w3 w4 lg md 131 := ⟨_, rfl, eqvE_r⟩
theorem pa_132 (cy : Nat → ClassId) (h0 q1 q2 q3 : Nat) (w1 w2 w3 w4 lg md : Nat → Nat) : PAx cy h0 q1 q2 q3 w1 w2 w3 w4 lg md 132 := ⟨_, rfl, eqvE_r⟩
theorem pa_133 (cy : Nat → ClassId) (h0 q1 q2 q3 : Nat) (w1 w2 w3 w4 lg md : Nat → Nat) : PAx cy h0 q1 q2 q3 w1 w2 w3 w4 lg md 133 := ⟨_, rfl, eqvE_r⟩
theorem pa_134 (cy : Nat → ClassId) (h0 q1 q2 q3 : Nat) (w1 w2 w3 w4 lg md : Nat → Nat) : PAx cy h0 q1 q2 q3 w1 w2 w3 w4 lg md 134 := ⟨_, rfl, eqvE_r⟩
theorem pa_135 (cy : Nat → ClassId) (h0 q1 q2 q3 : Nat) (w1 w2 w3 w4 lg md : Nat → Nat) : PAx cy h0 q1 q2 q3 w1 w2 w3 w4 lg md 135 := ⟨_, rfl, eqvE_r⟩
theorem pa_136 (cy : Nat → ClassId) (h0 q1 q2 q3 : Nat) (w1 w2 w3 w4 lg md : Nat → Nat) : PAx cy h0 q1 q2 q3 w1 w2 w3 w4 lg md 136 := ⟨_, rfl, eqvE_r⟩
theorem pa_137 (cy : Nat → ClassId) (h0 q1 q2 q3 : Nat) (w1 w2 w3 w4 lg md : Nat → Nat) : PAx cy h0 q1 q2 q3 w1 w2 w3 w4 lg md 137 := ⟨_, rfl, eqvE_r⟩
theorem pa_138 (cy : Nat → ClassId) (h0 q1 q2 q3 : Nat) (w1 w2 w3 w4 lg md : Nat → Nat) : PAx cy h0 q1 q2 q3 w1 w2 w3 w4 lg md 138 := ⟨_, rfl, eqvE_r⟩
theorem pa_139 (cy : Nat → ClassId) (h0 q1 q2 q3 : Nat) (w1 w2 w3 w4 lg md : Nat → Nat) : PAx cy h0 q1 q2 q3 w1 w2 w3 w4 lg md 139 := ⟨_, rfl, eqvE_r⟩
theorem pa_140 (cy : Nat → ClassId) (h0 q1 q2 q3 : Nat) (w1 w2 w3 w4 lg md : Nat → Nat) : PAx cy h0 q1 q2 q3 w1 w2 w3 w4 lg md 140 := ⟨_, rfl, eqvE_r⟩
theorem pa_141 (cy : Nat → ClassId) (h0 q1 q2 q3 : Nat) (w1 w2 w3 w4 lg md : Nat → Nat) : PAx cy h0 q1 q2 q3 w1 w2 w3 w4 lg md 141 := ⟨_, rfl, eqvE_r⟩
theorem pa_142 (cy : Nat → ClassId) (h0 q1 q2 q3 : Nat) (w1 w2 w3 w4 lg md : Nat → Nat) : PAx cy h0 q1 q2 q3 w1 w2 w3 w4 lg md 142 := ⟨_, rfl, eqvE_r⟩
theorem pa_143 (cy : Nat → ClassId) (h0 q1 q2 q3 : Nat) (w1 w2 w3 w4 lg md : Nat → Nat) : PAx cy h0 q1 q2 q3 w1 w2 w3 w4 lg md 143 := ⟨_, rfl, eqvE_r⟩
theorem pa_144 (cy : Nat → ClassId) (h0 q1 q2 q3 : Nat) (w1 w2 w3 w4 lg md : Nat → Nat) : PAx cy h0 q1 q2 q3 w1 w2 w3 w4 lg md 144 := ⟨_, rfl, eqvE_r⟩
theorem pa_145 (cy : Nat → ClassId) (h0 q1 q2 q3 : Nat) (w1 w2 w3 w4 lg md : Nat → Nat) : PAx cy h0 q1 q2 q3 w1 w2 w3 w4 lg md 145 := ⟨_, rfl, eqvE_r⟩
theorem pa_146 (cy : Nat → ClassId) (h0 q1 q2 q3 : Nat) (w1 w2 w3 w4 lg md : Nat → Nat) : PAx cy h0 q1 q2 q3 w1 w2 w3 w4 lg md 146 := ⟨_, rfl, eqvE_r⟩
theorem pa_147 (cy : Nat → ClassId) (h0 q1 q2 q3 : Nat) (w1 w2 w3 w4 lg md : Nat → Nat) : PAx cy h0 q1 q2 q3 w1 w2 w3 w4 lg md 147 := ⟨_, rfl, eqvE_r⟩
theorem pa_148 (cy : Nat → ClassId) (h0 q1 q2 q3 : Nat) (w1 w2 w3 w4 lg md : Nat → Nat) : PAx cy h0 q1 q2 q3 w1 w2 w3 w4 lg md 148 := ⟨_, rfl, eqvE_r⟩
theorem pa_149 (cy : Nat → ClassId) (h0 q1 q2 q3 : Nat) (w1 w2 w3 w4 lg md : Nat → Nat) : PAx cy h0 q1 q2 q3 w1 w2 w3 w4 lg md 149 := ⟨_, rfl, eqvE_r⟩
theorem pa_150 (cy : Nat → ClassId) (h0 q1 q2 q3 : Nat) (w1 w2 w3 w4 lg md : Nat → Nat) : PAx cy h0 q1 q2 q3 w1 w2 w3 w4 lg md 150 := ⟨_, rfl, eqvE_r⟩
theorem pa_151 (cy : Nat → ClassId) (h0 q1 q2 q3 : Nat) (w1 w2 w3 w4 lg md : Nat → Nat) : PAx cy h0 q1 q2 q3 w1 w2 w3 w4 lg md 151 := ⟨_, rfl, eqvE_r⟩
theorem pa_152 (cy : Nat → ClassId) (h0 q1 q2 q3 : Nat) (w1 w2 w3 w4 lg md : Nat → Nat) : PAx cy h0 q1 q2 q3 w1 w2 w3 w4 lg md 152 := ⟨_, rfl, eqvE_r⟩
theorem pa_153 (cy : Nat → ClassId) (h0 q1 q2 q3 : Nat) (w1 w2 w3 w4 lg md : Nat → Nat) : PAx cy h0 q1 q2 q3 w1 w2 w3 w4 lg md 153 := ⟨_, rfl, eqvE_r⟩
theorem pa_154 (cy : Nat → ClassId) (h0 q1 q2 q3 : Nat) (w1 w2 w3 w4 lg md : Nat → Nat) : PAx cy h0 q1 q2 q3 w1 w2 w3 w4 lg md 154 := ⟨_, rfl, eqvE_r⟩
theorem pa_155 (cy : Nat → ClassId) (h0 q1 q2 q3 : Nat) (w1 w2 w3 w4 lg md : Nat → Nat) : PAx cy h0 q1 q2 q3 w1 w2 w3 w4 lg md 155 := ⟨_, rfl, eqvE_r⟩
theorem pa_156 (cy : Nat → ClassId) (h0 q1 q2 q3 : Nat) (w1 w2 w3 w4 lg md : Nat → Nat) : PAx cy h0 q1 q2 q3 w1 w2 w3 w4 lg md 156 := ⟨_, rfl, eqvE_r⟩
theorem pa_157 (cy : Nat → ClassId) (h0 q1 q2 q3 : Nat) (w1 w2 w3 w4 lg md : Nat → Nat) : PAx cy h0 q1 q2 q3 w1 w2 w3 w4 lg md 157 := ⟨_, rfl, eqvE_r⟩
theorem pa_158 (cy : Nat → ClassId) (h0 q1 q2 q3 : Nat) (w1 w2 w3 w4 lg md : Nat → Nat) : PAx cy h0 q1 q2 q3 w1 w2 w3 w4 lg md 158 := ⟨_, rfl, eqvE_r⟩
theorem pa_159 (cy : Nat → ClassId) (h0 q1 q2 q3 : Nat) (w1 w2 w3 w4 lg md : Nat → Nat) : PAx cy h0 q1 q2 q3 w1 w2 w3 w4 lg md 159 := ⟨_, rfl, eqvE_r⟩
theorem pa_160 (cy : Nat → ClassId) (h0 q1 q2 q3 : Nat) (w1 w2 w3 w4 lg md : Nat → Nat) : PAx cy h0 q1 q2 q3 w1 w2 w3 w4 lg md 160 := ⟨_, rfl, eqvE_r⟩
theorem pa_161 (cy : Nat → ClassId) (h0 q1 q2 q3 : Nat) (w1 w2 w3 w4 lg md : Nat → Nat) : PAx cy h0 q1 q2 q3 w1 w2 w3 w4 lg md 161 := ⟨_, rfl, eqvE_r⟩
set_option maxRecDepth 100000 in
theorem pa_all (cy : Nat → ClassId) (h0 q1 q2 q3 : Nat) (w1 w2 w3 w4 lg md : Nat → Nat) : ∀ i, i < 162 → PAx cy h0 q1 q2 q3 w1 w2 w3 w4 lg md i := lt_s (lt_s (lt_s (lt_s (lt_s (lt_s (lt_s (lt_s (lt_s (lt_s (lt_s (lt_s (lt_s (lt_s (lt_s (lt_s (lt_s (lt_s (lt_s (lt_s (lt_s (lt_s (lt_s (lt_s (lt_s (lt_s (lt_s (lt_s (lt_s (lt_s (lt_s (lt_s (lt_s (lt_s (lt_s (lt_s (lt_s (lt_s (lt_s (lt_s (lt_s (lt_s (lt_s (lt_s (lt_s (lt_s (lt_s (lt_s (lt_s (lt_s (lt_s (lt_s (lt_s (lt_s (lt_s (lt_s (lt_s (lt_s (lt_s (lt_s (lt_s (lt_s (lt_s (lt_s (lt_s (lt_s (lt_s (lt_s (lt_s (lt_s (lt_s (lt_s (lt_s (lt_s (lt_s (lt_s (lt_s (lt_s (lt_s (lt_s (lt_s (lt_s (lt_s (lt_s (lt_s (lt_s (lt_s (lt_s (lt_s (lt_s (lt_s (lt_s (lt_s (lt_s (lt_s (lt_s (lt_s (lt_s (lt_s (lt_s (lt_s (lt_s (lt_s (lt_s (lt_s (lt_s (lt_s (lt_s (lt_s (lt_s (lt_s (lt_s (lt_s (lt_s (lt_s (lt_s (lt_s (lt_s (lt_s (lt_s (lt_s (lt_s (lt_s (lt_s (lt_s (lt_s (lt_s (lt_s (lt_s (lt_s (lt_s (lt_s (lt_s (lt_s (lt_s (lt_s (lt_s (lt_s (lt_s (lt_s (lt_s (lt_s (lt_s (lt_s (lt_s (lt_s (lt_s (lt_s (lt_s (lt_s (lt_s (lt_s (lt_s (lt_s (lt_s (lt_s (lt_s (lt_s (lt_s (lt_s (lt_s (lt_s (lt_0) (pa_0 cy h0 q1 q2 q3 w1 w2 w3 w4 lg md)) (pa_1 cy h0 q1 q2 q3 w1 w2 w3 w4 lg md)) (pa_2 cy h0 q1 q2 q3 w1 w2 w3 w4 lg md)) (pa_3 cy h0 q1 q2 q3 w1 w2 w3 w4 lg md)) (pa_4 cy h0 q1 q2 q3 w1 w2 w3 w4 lg md)) (pa_5 cy h0 q1 q2 q3 w1 w2 w3 w4 lg md)) (pa_6 cy h0 q1 q2 q3 w1 w2 w3 w4 lg md)) (pa_7 cy h0 q1 q2 q3 w1 w2 w3 w4 lg md)) (pa_8 cy h0 q1 q2 q3 w1 w2 w3 w4 lg md)) (pa_9 cy h0 q1 q2 q3 w1 w2 w3 w4 lg md)) (pa_10 cy h0 q1 q2 q3 w1 w2 w3 w4 lg md)) (pa_11 cy h0 q1 q2 q3 w1 w2 w3 w4 lg md)) (pa_12 cy h0 q1 q2 q3 w1 w2 w3 w4 lg md)) (pa_13 cy h0 q1 q2 q3 w1 w2 w3 w4 lg md)) (pa_14 cy h0 q1 q2 q3 w1 w2 w3 w4 lg md)) (pa_15 cy h0 q1 q2 q3 w1 w2 w3 w4 lg md)) (pa_16 cy h0 q1 q2 q3 w1 w2 w3 w4 lg md)) (pa_17 cy h0 q1 q2 q3 w1 w2 w3 w4 lg md)) (pa_18 cy h0 q1 q2 q3 w1 w2 w3 w4 lg md)) (pa_19 cy h0 q1 q2 q3 w1 w2 w3 w4 lg md)) (pa_20 cy h0 q1 q2 q3 w1 w2 w3 w4 lg md)) (pa_21 cy h0 q1 q2 q3 w1 w2 w3 w4 lg md)) (pa_22 cy h0 q1 q2 q3 w1 w2 w3 w4 lg md)) (pa_23 cy h0 q1 q2 q3 w1 w2 w3 w4 lg md)) (pa_24 cy h0 q1 q2 q3 w1 w2 w3 w4 lg md)) (pa_25 cy h0 q1 q2 q3 w1 w2 w3 w4 lg md)) (pa_26 cy h0 q1 q2 q3 w1 w2 w3 w4 lg md)) (pa_27 cy h0 q1 q2 q3 w1 w2 w3 w4 lg md)) (pa_28 cy h0 q1 q2 q3 w1 w2 w3 w4 lg md)) (pa_29 cy h0 q1 q2 q3 w1 w2 w3 w4 lg md)) (pa_30 cy h0 q1 q2 q3 w1 w2 w3 w4 lg md)) (pa_31 cy h0 q1 q2 q3 w1 w2 w3 w4 lg md)) (pa_32 cy h0 q1 q2 q3 w1 w2 w3 w4 lg md)) (pa_33 cy h0 q1 q2 q3 w1 w2 w3 w4 lg md)) (pa_34 cy h0 q1 q2 q3 w1 w2 w3 w4 lg md)) (pa_35 cy h0 q1 q2 q3 w1 w2 w3 w4 lg md)) (pa_36 cy h0 q1 q2 q3 w1 w2 w3 w4 lg md)) (pa_37 cy h0 q1 q2 q3 w1 w2 w3 w4 lg md)) (pa_38 cy h0 q1 q2 q3 w1 w2 w3 w4 lg md)) (pa_39 cy h0 q1 q2 q3 w1 w2 w3 w4 lg md)) (pa_40 cy h0 q1 q2 q3 w1 w2 w3 w4 lg md)) (pa_41 cy h0 q1 q2 q3 w1 w2 w3 w4 lg md)) (pa_42 cy h0 q1 q2 q3 w1 w2 w3 w4 lg md)) (pa_43 cy h0 q1 q2 q3 w1 w2 w3 w4 lg md)) (pa_44 cy h0 q1 q2 q3 w1 w2 w3 w4 lg md)) (pa_45 cy h0 q1 q2 q3 w1 w2 w3 w4 lg md)) (pa_46 cy h0 q1 q2 q3 w1 w2 w3 w4 lg md)) (pa_47 cy h0 q1 q2 q3 w1 w2 w3 w4 lg md)) (pa_48 cy h0 q1 q2 q3 w1 w2 w3 w4 lg md)) (pa_49 cy h0 q1 q2 q3 w1 w2 w3 w4 lg md)) (pa_50 cy h0 q1 q2 q3 w1 w2 w3 w4 lg md)) (pa_51 cy h0 q1 q2 q3 w1 w2 w3 w4 lg md)) (pa_52 cy h0 q1 q2 q3 w1 w2 w3 w4 lg md)) (pa_53 cy h0 q1 q2 q3 w1 w2 w3 w4 lg md)) (pa_54 cy h0 q1 q2 q3 w1 w2 w3 w4 lg md)) (pa_55 cy h0 q1 q2 q3 w1 w2 w3 w4 lg md)) (pa_56 cy h0 q1 q2 q3 w1 w2 w3 w4 lg md)) (pa_57 cy h0 q1 q2 q3 w1 w2 w3 w4 lg md)) (pa_58 cy h0 q1 q2 q3 w1 w2 w3 w4 lg md)) (pa_59 cy h0 q1 q2 q3 w1 w2 w3 w4 lg md)) (pa_60 cy h0 q1 q2 q3 w1 w2 w3 w4 lg md)) (pa_61 cy h0 q1 q2 q3 w1 w2 w3 w4 lg md)) (pa_62 cy h0 q1 q2 q3 w1 w2 w3 w4 lg md)) (pa_63 cy h0 q1 q2 q3 w1 w2 w3 w4 lg md)) (pa_64 cy h0 q1 q2 q3 w1 w2 w3 w4 lg md)) (pa_65 cy h0 q1 q2 q3 w1 w2 w3 w4 lg md)) (pa_66 cy h0 q1 q2 q3 w1 w2 w3 w4 lg md)) (pa_67 cy h0 q1 q2 q3 w1 w2 w3 w4 lg md)) (pa_68 cy h0 q1 q2 q3 w1 w2 w3 w4 lg md)) (pa_69 cy h0 q1 q2 q3 w1 w2 w3 w4 lg md)) (pa_70 cy h0 q1 q2 q3 w1 w2 w3 w4 lg md)) (pa_71 cy h0 q1 q2 q3 w1 w2 w3 w4 lg md)) (pa_72 cy h0 q1 q2 q3 w1 w2 w3 w4 lg md)) (pa_73 cy h0 q1 q2 q3 w1 w2 w3 w4 lg md)) (pa_74 cy h0 q1 q2 q3 w1 w2 w3 w4 lg md)) (pa_75 cy h0 q1 q2 q3 w1 w2 w3 w4 lg md)) (pa_76 cy h0 q1 q2 q3 w1 w2 w3 w4 lg md)) (pa_77 cy h0 q1 q2 q3 w1 w2 w3 w4 lg md)) (pa_78 cy h0 q1 q2 q3 w1 w2 w3 w4 lg md)) (pa_79 cy h0 q1 q2 q3 w1 w2 w3 w4 lg md)) (pa_80 cy h0 q1 q2 q3 w1 w2 w3 w4 lg md)) (pa_81 cy h0 q1 q2 q3 w1 w2 w3 w4 lg md)) (pa_82 cy h0 q1 q2 q3 w1 w2 w3 w4 lg md)) (pa_83 cy h0 q1 q2 q3 w1 w2 w3 w4 lg md)) (pa_84 cy h0 q1 q2 q3 w1 w2 w3 w4 lg md)) (pa_85 cy h0 q1 q2 q3 w1 w2 w3 w4 lg md)) (pa_86 cy h0 q1 q2 q3 w1 w2 w3 w4 lg md)) (pa_87 cy h0 q1 q2 q3 w1 w2 w3 w4 lg md)) (pa_88 cy h0 q1 q2 q3 w1 w2 w3 w4 lg md)) (pa_89 cy h0 q1 q2 q3 w1 w2 w3 w4 lg md)) (pa_90 cy h0 q1 q2 q3 w1 w2 w3 w4 lg md)) (pa_91 cy h0 q1 q2 q3 w1 w2 w3 w4 lg md)) (pa_92 cy h0 q1 q2 q3 w1 w2 w3 w4 lg md)) (pa_93 cy h0 q1 q2 q3 w1 w2 w3 w4 lg md)) (pa_94 cy h0 q1 q2 q3 w1 w2 w3 w4 lg md)) (pa_95 cy h0 q1 q2 q3 w1 w2 w3 w4 lg md)) (pa_96 cy h0 q1 q2 q3 w1 w2 w3 w4 lg md)) (pa_97 cy h0 q1 q2 q3 w1 w2 w3 w4 lg md)) (pa_98 cy h0 q1 q2 q3 w1 w2 w3 w4 lg md)) (pa_99 cy h0 q1 q2 q3 w1 w2 w3 w4 lg md)) (pa_100 cy h0 q1 q2 q3 w1 w2 w3 w4 lg md)) (pa_101 cy h0 q1 q2 q3 w1 w2 w3 w4 lg md)) (pa_102 cy h0 q1 q2 q3 w1 w2 w3 w4 lg md)) (pa_103 cy h0 q1 q2 q3 w1 w2 w3 w4 lg md)) (pa_104 cy h0 q1 q2 q3 w1 w2 w3 w4 lg md)) (pa_105 cy h0 q1 q2 q3 w1 w2 w3 w4 lg md)) (pa_106 cy h0 q1 q2 q3 w1 w2 w3 w4 lg md)) (pa_107 cy h0 q1 q2 q3 w1 w2 w3 w4 lg md)) (pa_108 cy h0 q1 q2 q3 w1 w2 w3 w4 lg md)) (pa_109 cy h0 q1 q2 q3 w1 w2 w3 w4 lg md)) (pa_110 cy h0 q1 q2 q3 w1 w2 w3 w4 lg md)) (pa_111 cy h0 q1 q2 q3 w1 w2 w3 w4 lg md)) (pa_112 cy h0 q1 q2 q3 w1 w2 w3 w4 lg md)) (pa_113 cy h0 q1 q2 q3 w1 w2 w3 w4 lg md)) (pa_114 cy h0 q1 q2 q3 w1 w2 w3 w4 lg md)) (pa_115 cy h0 q1 q2 q3 w1 w2 w3 w4 lg md)) (pa_116 cy h0 q1 q2 q3 w1 w2 w3 w4 lg md)) (pa_117 cy h0 q1 q2 q3 w1 w2 w3 w4 lg md)) (pa_118 cy h0 q1 q2 q3 w1 w2 w3 w4 lg md)) (pa_119 cy h0 q1 q2 q3 w1 w2 w3 w4 lg md)) (pa_120 cy h0 q1 q2 q3 w1 w2 w3 w4 lg md)) (pa_121 cy h0 q1 q2 q3 w1 w2 w3 w4 lg md)) (pa_122 cy h0 q1 q2 q3 w1 w2 w3 w4 lg md)) (pa_123 cy h0 q1 q2 q3 w1 w2 w3 w4 lg md)) (pa_124 cy h0 q1 q2 q3 w1 w2 w3 w4 lg md)) (pa_125 cy h0 q1 q2 q3 w1 w2 w3 w4 lg md)) (pa_126 cy h0 q1 q2 q3 w1 w2 w3 w4 lg md)) (pa_127 cy h0 q1 q2 q3 w1 w2 w3 w4 lg md)) (pa_128 cy h0 q1 q2 q3 w1 w2 w3 w4 lg md)) (pa_129 cy h0 q1 q2 q3 w1 w2 w3 w4 lg md)) (pa_130 cy h0 q1 q2 q3 w1 w2 w3 w4 lg md)) (pa_131 cy h0 q1 q2 q3 w1 w2 w3 w4 lg md)) (pa_132 cy h0 q1 q2 q3 w1 w2 w3 w4 lg md)) (pa_133 cy h0 q1 q2 q3 w1 w2 w3 w4 lg md)) (pa_134 cy h0 q1 q2 q3 w1 w2 w3 w4 lg md)) (pa_135 cy h0 q1 q2 q3 w1 w2 w3 w4 lg md)) (pa_136 cy h0 q1 q2 q3 w1 w2 w3 w4 lg md)) (pa_137 cy h0 q1 q2 q3 w1 w2 w3 w4 lg md)) (pa_138 cy h0 q1 q2 q3 w1 w2 w3 w4 lg md)) (pa_139 cy h0 q1 q2 q3 w1 w2 w3 w4 lg md)) (pa_140 cy h0 q1 q2 q3 w1 w2 w3 w4 lg md)) (pa_141 cy h0 q1 q2 q3 w1 w2 w3 w4 lg md)) (pa_142 cy h0 q1 q2 q3 w1 w2 w3 w4 lg md)) (pa_143 cy h0 q1 q2 q3 w1 w2 w3 w4 lg md)) (pa_144 cy h0 q1 q2 q3 w1 w2 w3 w4 lg md)) (pa_145 cy h0 q1 q2 q3 w1 w2 w3 w4 lg md)) (pa_146 cy h0 q1 q2 q3 w1 w2 w3 w4 lg md)) (pa_147 cy h0 q1 q2 q3 w1 w2 w3 w4 lg md)) (pa_148 cy h0 q1 q2 q3 w1 w2 w3 w4 lg md)) (pa_149 cy h0 q1 q2 q3 w1 w2 w3 w4 lg md)) (pa_150 cy h0 q1 q2 q3 w1 w2 w3 w4 lg md)) (pa_151 cy h0 q1 q2 q3 w1 w2 w3 w4 lg md)) (pa_152 cy h0 q1 q2 q3 w1 w2 w3 w4 lg md)) (pa_153 cy h0 q1 q2 q3 w1 w2 w3 w4 lg md)) (pa_154 cy h0 q1 q2 q3 w1 w2 w3 w4 lg md)) (pa_155 cy h0 q1 q2 q3 w1 w2 w3 w4 lg md)) (pa_156 cy h0 q1 q2 q3 w1 w2 w3 w4 lg md)) (pa_157 cy h0 q1 q2 q3 w1 w2 w3 w4 lg md)) (pa_158 cy h0 q1 q2 q3 w1 w2 w3 w4 lg md)) (pa_159 cy h0 q1 q2 q3 w1 w2 w3 w4 lg md)) (pa_160 cy h0 q1 q2 q3 w1 w2 w3 w4 lg md)) (pa_161 cy h0 q1 q2 q3 w1 w2 w3 w4 lg md)
theorem pic_P {dC : Nat → ClassId} {dI : Nat → Nat → Nat} {H : Heap} (cy : Nat → ClassId) (h0 q1 q2 q3 : Nat) (w1 w2 w3 w4 lg md : Nat → Nat) (hP : va_P (dC, dI) vwCl (ysp cy h0 q1 q2 q3 w1 w2 w3 w4 lg ++ ymd cy md) H) : va_P (dC, dI) vwCl (wsM (aU h0 q1 q2 q3 w1 w2 w3 w4 lg md) cy M0) H := by
  intro k q hk
  obtain ⟨hl, rfl⟩ := wsM_inv hk
  obtain ⟨e, h1, h2⟩ := pa_all cy h0 q1 q2 q3 w1 w2 w3 w4 lg md k hl
  exact h2 _ _ _ _ (hP k _ h1)
theorem pic_D {B : Nat} (cy : Nat → ClassId) (h0 q1 q2 q3 : Nat) (w1 w2 w3 w4 lg md : Nat → Nat) (hD : va_D (fun q => B ≤ q) (ysp cy h0 q1 q2 q3 w1 w2 w3 w4 lg ++ ymd cy md)) : injU (aU h0 q1 q2 q3 w1 w2 w3 w4 lg md) ∧ ∀ i, i < 162 → B ≤ aU h0 q1 q2 q3 w1 w2 w3 w4 lg md i := by
  refine ⟨fun i j hi hj h => ?_, fun i hi => ?_⟩
  · obtain ⟨e1, h1, -⟩ := pa_all cy h0 q1 q2 q3 w1 w2 w3 w4 lg md i hi
    obtain ⟨e2, h2, -⟩ := pa_all cy h0 q1 q2 q3 w1 w2 w3 w4 lg md j hj
    exact hD.1 i j _ _ h1 h2 h
  · obtain ⟨e1, h1, -⟩ := pa_all cy h0 q1 q2 q3 w1 w2 w3 w4 lg md i hi
    exact hD.2 i _ h1
