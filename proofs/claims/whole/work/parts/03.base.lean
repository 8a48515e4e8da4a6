/-! the system's cells as ONE picture: 162 cells of a fixed shape; what moves is numbers (Mem) -/
abbrev Mem : Type := (Nat → Nat → Int32) × Int64
abbrev Shp : Type := (Bool × Nat) ⊕ ((Bool × Nat × (Nat → Nat)) ⊕ (Nat × List (Nat ⊕ Bool)))
def rd (M : Mem) (i k : Nat) : Int32 := M.1 i k
def wr (M : Mem) (i k : Nat) (v : Int32) : Mem := (fun j => if j = i then upd (M.1 i) k v else M.1 j, M.2)
def rdJ (M : Mem) : Int64 := M.2
def wrJ (M : Mem) (v : Int64) : Mem := (M.1, v)
def cpM (M : Mem) (i0 i1 : Nat) (sp dp n : Nat) : Mem := (fun j => if j = i1 then va_cpy (M.1 i0) (M.1 i1) sp dp n else M.1 j, M.2)
-- shapes
def iarr (n : Nat) : Shp := .inl (false, n)
def zarr (n : Nat) : Shp := .inl (true, n)
def rarr (b : Bool) (n : Nat) (f : Nat → Nat) : Shp := .inr (.inl (b, n, f))
def objS (ci : Nat) (fl : List (Nat ⊕ Bool)) : Shp := .inr (.inr (ci, fl))
def shCh (c j : Nat) : Shp := if j = 0 then objS 0 [.inl (c + 1), .inl (c + 2), .inl (c + 3), .inl (c + 4), .inl (c + 5), .inl (c + 6), .inl (c + 7), .inr false] else iarr 12
def shWt (e j : Nat) : Shp := if j = 0 then objS 2 [.inl (e + 1), .inl (e + 2), .inl (e + 3), .inr false] else iarr 30
def shWo (w j : Nat) : Shp := if j = 0 then objS 3 [.inl (w + 1), .inl (w + 9), .inl (w + 10), .inl (w + 11), .inl (w + 12), .inr false, .inr false, .inr false, .inr false, .inr false, .inr false, .inr false]
  else if j < 9 then shCh (w + 1) (j - 1) else if j = 9 then rarr false 6 (fun p => w + 9 + 4 + 4 * p) else if j < 13 then iarr 6
  else shWt (w + 9 + 4 + 4 * ((j - 13) / 4)) ((j - 13) % 4)
def shp (i : Nat) : Shp :=
  if i = 0 then objS 4 [.inl 1, .inl 38, .inl 75, .inl 150, .inl 151, .inl 156]
  else if i < 75 then shWo (1 + 37 * ((i - 1) / 37)) ((i - 1) % 37)
  else if i = 75 then rarr true 2 (fun p => 75 + 1 + 37 * p)
  else if i < 150 then shWo (76 + 37 * ((i - 76) / 37)) ((i - 76) % 37)
  else if i = 150 then zarr 2
  else if i = 151 then objS 1 [.inl 152, .inl 153, .inl 154, .inl 155, .inr false]
  else if i < 156 then iarr 200
  else if i = 156 then iarr 6
  else if i = 157 then objS 5 [.inl 158, .inl 159, .inr false, .inl 160, .inr true, .inl 161]
  else if i = 158 then iarr 1048
  else if i = 159 then zarr 2
  else if i = 160 then iarr 800
  else if i = 161 then iarr 6
  else zarr 0
theorem shp_lt {i : Nat} (h : shp i ≠ zarr 0) : i < 162 := by
  rcases Nat.lt_or_ge i 162 with q | q
  · exact q
  · exact absurd (by unfold shp; rw [if_neg (by omega), if_neg (by omega), if_neg (by omega), if_neg (by omega), if_neg (by omega), if_neg (by omega), if_neg (by omega), if_neg (by omega), if_neg (by omega), if_neg (by omega), if_neg (by omega), if_neg (by omega), if_neg (by omega)]) h
def K2 (e : Nat) : Prop := shp e = objS 2 [.inl (e + 1), .inl (e + 2), .inl (e + 3), .inr false] ∧ shp (e + 1) = iarr 30 ∧ shp (e + 2) = iarr 30 ∧ shp (e + 3) = iarr 30
def K0 (c : Nat) : Prop := shp c = objS 0 [.inl (c + 1), .inl (c + 2), .inl (c + 3), .inl (c + 4), .inl (c + 5), .inl (c + 6), .inl (c + 7), .inr false] ∧ shp (c + 1) = iarr 12 ∧ shp (c + 2) = iarr 12 ∧ shp (c + 3) = iarr 12 ∧ shp (c + 4) = iarr 12 ∧ shp (c + 5) = iarr 12 ∧ shp (c + 6) = iarr 12 ∧ shp (c + 7) = iarr 12
def K3 (w : Nat) : Prop := shp w = objS 3 [.inl (w + 1), .inl (w + 9), .inl (w + 10), .inl (w + 11), .inl (w + 12), .inr false, .inr false, .inr false, .inr false, .inr false, .inr false, .inr false] ∧ K0 (w + 1) ∧ shp (w + 9) = rarr false 6 (fun p => w + 9 + 4 + 4 * p) ∧ shp (w + 10) = iarr 6 ∧ shp (w + 11) = iarr 6 ∧ shp (w + 12) = iarr 6 ∧ ∀ p, p < 6 → K2 (w + 9 + 4 + 4 * p)
def K1 (o : Nat) : Prop := shp o = objS 1 [.inl (o + 1), .inl (o + 2), .inl (o + 3), .inl (o + 4), .inr false] ∧ shp (o + 1) = iarr 200 ∧ shp (o + 2) = iarr 200 ∧ shp (o + 3) = iarr 200 ∧ shp (o + 4) = iarr 200
def K4 (t : Nat) : Prop := shp t = objS 4 [.inl (t + 1), .inl (t + 38), .inl (t + 75), .inl (t + 150), .inl (t + 151), .inl (t + 156)] ∧ K3 (t + 1) ∧ K3 (t + 38) ∧ shp (t + 75) = rarr true 2 (fun p => t + 75 + 1 + 37 * p) ∧ (∀ p, p < 2 → K3 (t + 75 + 1 + 37 * p)) ∧ shp (t + 150) = zarr 2 ∧ K1 (t + 151) ∧ shp (t + 156) = iarr 6
def K5 (t : Nat) : Prop := shp t = objS 5 [.inl (t + 1), .inl (t + 2), .inr false, .inl (t + 3), .inr true, .inl (t + 4)] ∧ shp (t + 1) = iarr 1048 ∧ shp (t + 2) = zarr 2 ∧ shp (t + 3) = iarr 800 ∧ shp (t + 4) = iarr 6 ∧ t = 157
-- the picture
def fval (a : Nat → Nat) (M : Mem) (i k : Nat) (o : Nat ⊕ Bool) : Value := match o with
  | .inl j => .ref (a j)
  | .inr false => .int (rd M i k)
  | .inr true => .long (rdJ M)
def contS (a : Nat → Nat) (cy : Nat → ClassId) (M : Mem) (i : Nat) (h : Shp) : va_E := match h with
  | .inl (false, n) => .inl (cy 0, n, .inl (M.1 i))
  | .inl (true, n) => .inl (cy 1, n, .inl (M.1 i))
  | .inr (.inl (false, n, f)) => .inl (cy 2, n, .inr (.inr (.inr (.inr (fun j => some (a (f j)))))))
  | .inr (.inl (true, n, f)) => .inl (cy 3, n, .inr (.inr (.inr (.inr (fun j => some (a (f j)))))))
  | .inr (.inr (ci, fl)) => .inr (ci, fl.mapIdx (fun k o => fval a M i k o))
def cont (a : Nat → Nat) (cy : Nat → ClassId) (M : Mem) (i : Nat) : va_E := contS a cy M i (shp i)
def wsM (a : Nat → Nat) (cy : Nat → ClassId) (M : Mem) : va_W := (List.range 162).map (fun i => (a i, cont a cy M i))
def tysU (cy : Nat → ClassId) : List (ClassId × FieldType) := [(cy 0, .int), (cy 1, .boolean), (cy 2, .object "SafeParts$Waiting"), (cy 3, .object "SafeParts$World")]
def AU (a : Nat → Nat) : Nat → Prop := fun q => ∃ i, i < 162 ∧ q = a i
def injU (a : Nat → Nat) : Prop := ∀ i j, i < 162 → j < 162 → a i = a j → i = j
theorem wsM_at {a : Nat → Nat} {cy : Nat → ClassId} {M : Mem} {i : Nat} (h : i < 162) : (wsM a cy M)[i]? = some (a i, cont a cy M i) := by
  simp [wsM, h]
theorem wsM_inv {a : Nat → Nat} {cy : Nat → ClassId} {M : Mem} {i : Nat} {q : Nat × va_E} (h : (wsM a cy M)[i]? = some q) : i < 162 ∧ q = (a i, cont a cy M i) := by
  have h1 : i < (wsM a cy M).length := (List.getElem?_eq_some_iff.mp h).1
  have h2 : i < 162 := by simpa [wsM] using h1
  refine ⟨h2, ?_⟩
  rw [wsM_at h2] at h
  exact (Option.some.inj h).symm
theorem wsM_D {a : Nat → Nat} {cy : Nat → ClassId} (hi : injU a) (M : Mem) : va_D (AU a) (wsM a cy M) := by
  refine ⟨fun i j p q h1 h2 h3 => ?_, fun k q h => ?_⟩
  · obtain ⟨l1, e1⟩ := wsM_inv h1
    obtain ⟨l2, e2⟩ := wsM_inv h2
    rw [e1, e2] at h3
    exact hi i j l1 l2 h3
  · obtain ⟨l1, e1⟩ := wsM_inv h
    exact ⟨k, l1, by rw [e1]⟩
theorem wsM_set {a : Nat → Nat} {cy : Nat → ClassId} {M M1 : Mem} {i : Nat} {e : va_E} (he : cont a cy M1 i = e) (ho : ∀ j, j < 162 → j ≠ i → cont a cy M1 j = cont a cy M j) : (wsM a cy M).set i (a i, e) = wsM a cy M1 := by
  apply List.ext_getElem?
  intro k
  rw [List.getElem?_set]
  by_cases hk : i = k
  · subst hk
    rw [if_pos rfl]
    by_cases hl : i < 162
    · rw [if_pos (by simpa [wsM] using hl), wsM_at hl, he]
    · rw [if_neg (by simpa [wsM] using hl)]
      simp [wsM, hl]
  · rw [if_neg hk]
    by_cases hl : k < 162
    · rw [wsM_at hl, wsM_at hl, ho k hl (Ne.symm hk)]
    · simp [wsM, hl]
theorem cont_of {a : Nat → Nat} {cy : Nat → ClassId} {M : Mem} {i : Nat} {h : Shp} (hs : shp i = h) : cont a cy M i = contS a cy M i h := by rw [cont, hs]
theorem contS_ext {a : Nat → Nat} {cy : Nat → ClassId} {M M1 : Mem} {i : Nat} {h : Shp} (h1 : M1.1 i = M.1 i) (h2 : M1.2 = M.2) : contS a cy M1 i h = contS a cy M i h := by
  have hf : ∀ k o, fval a M1 i k o = fval a M i k o := fun k o => by
    unfold fval rd rdJ
    rw [h1, h2]
  rcases h with ⟨_ | _, n⟩ | ⟨_ | _, n, f⟩ | ⟨ci, fl⟩ <;> simp only [contS, h1, hf]
theorem wr_ne {M : Mem} {i j k : Nat} {v : Int32} (h : j ≠ i) : (wr M i k v).1 j = M.1 j := by simp [wr, h]
theorem wr_at {M : Mem} {i k : Nat} {v : Int32} : (wr M i k v).1 i = upd (M.1 i) k v := by simp [wr]
theorem wsM_wrA {a : Nat → Nat} {cy : Nat → ClassId} {M : Mem} {i n k : Nat} {v : Int32} (hs : shp i = iarr n) : (wsM a cy M).set i (a i, .inl (cy 0, n, .inl (upd (M.1 i) k v))) = wsM a cy (wr M i k v) :=
  wsM_set (by rw [cont_of hs]; show (Sum.inl (cy 0, n, .inl ((wr M i k v).1 i)) : va_E) = _; rw [wr_at]) (fun j _ hj => contS_ext (wr_ne hj) rfl)
theorem wsM_wrZ {a : Nat → Nat} {cy : Nat → ClassId} {M : Mem} {i n k : Nat} {v : Int32} (hs : shp i = zarr n) : (wsM a cy M).set i (a i, .inl (cy 1, n, .inl (upd (M.1 i) k v))) = wsM a cy (wr M i k v) :=
  wsM_set (by rw [cont_of hs]; show (Sum.inl (cy 1, n, .inl ((wr M i k v).1 i)) : va_E) = _; rw [wr_at]) (fun j _ hj => contS_ext (wr_ne hj) rfl)
theorem wsM_cp {a : Nat → Nat} {cy : Nat → ClassId} {M : Mem} {i0 i1 n sp dp k : Nat} (hs : shp i1 = iarr n) : (wsM a cy M).set i1 (a i1, .inl (cy 0, n, .inl (va_cpy (M.1 i0) (M.1 i1) sp dp k))) = wsM a cy (cpM M i0 i1 sp dp k) :=
  wsM_set (by rw [cont_of hs]; show (Sum.inl (cy 0, n, .inl ((cpM M i0 i1 sp dp k).1 i1)) : va_E) = _; simp [cpM]) (fun j _ hj => contS_ext (by simp [cpM, hj]) rfl)
theorem mapIdx_set {a : Nat → Nat} {M : Mem} {i k : Nat} {fl : List (Nat ⊕ Bool)} {v : Int32} (hk : fl[k]? = some (.inr false)) : (fl.mapIdx (fun k o => fval a M i k o)).set k (.int v) = fl.mapIdx (fun k' o => fval a (wr M i k v) i k' o) := by
  apply List.ext_getElem?
  intro q
  rw [List.getElem?_set, List.getElem?_mapIdx, List.getElem?_mapIdx]
  by_cases h : k = q
  · subst h
    have hl := (List.getElem?_eq_some_iff.mp hk).1
    rw [if_pos rfl, if_pos (by simpa using hl), hk]
    show _ = some (Value.int (rd (wr M i k v) i k))
    simp [rd, wr, upd]
  · rw [if_neg h]
    cases hq : fl[q]? with
    | none => rfl
    | some o =>
      rcases o with j | b
      · rfl
      · cases b with
        | true => rfl
        | false =>
          show some (Value.int (rd M i q)) = some (Value.int (rd (wr M i k v) i q))
          have : q ≠ k := fun e => h e.symm
          simp [rd, wr, upd, this]
theorem mapIdx_setJ {a : Nat → Nat} {M : Mem} {i k : Nat} {fl : List (Nat ⊕ Bool)} {v : Int64} (hk : fl[k]? = some (.inr true)) (hj : ∀ q, fl[q]? = some (.inr true) → q = k) : (fl.mapIdx (fun k o => fval a M i k o)).set k (.long v) = fl.mapIdx (fun k' o => fval a (wrJ M v) i k' o) := by
  apply List.ext_getElem?
  intro q
  rw [List.getElem?_set, List.getElem?_mapIdx, List.getElem?_mapIdx]
  by_cases h : k = q
  · subst h
    have hl := (List.getElem?_eq_some_iff.mp hk).1
    rw [if_pos rfl, if_pos (by simpa using hl), hk]
    rfl
  · rw [if_neg h]
    cases hq : fl[q]? with
    | none => rfl
    | some o =>
      rcases o with j | b
      · rfl
      · cases b with
        | true => exact absurd (hj q hq) (fun e => h e.symm)
        | false => rfl
def hasJ (h : Shp) : Bool := match h with
  | .inr (.inr (_, fl)) => fl.any (fun o => o == .inr true)
  | _ => false
theorem noJ : ∀ j, j < 162 → j ≠ 157 → hasJ (shp j) = false := by decide +kernel
theorem contS_J {a : Nat → Nat} {cy : Nat → ClassId} {M : Mem} {i : Nat} {h : Shp} {v : Int64} (hh : hasJ h = false) : contS a cy (wrJ M v) i h = contS a cy M i h := by
  rcases h with ⟨_ | _, n⟩ | ⟨_ | _, n, f⟩ | ⟨ci, fl⟩
  · rfl
  · rfl
  · rfl
  · rfl
  · show (Sum.inr (ci, fl.mapIdx (fun k o => fval a (wrJ M v) i k o)) : va_E) = .inr (ci, fl.mapIdx (fun k o => fval a M i k o))
    have : fl.mapIdx (fun k o => fval a (wrJ M v) i k o) = fl.mapIdx (fun k o => fval a M i k o) := by
      apply List.ext_getElem?
      intro q
      rw [List.getElem?_mapIdx, List.getElem?_mapIdx]
      cases hq : fl[q]? with
      | none => rfl
      | some o =>
        rcases o with j | b
        · rfl
        · cases b with
          | true =>
            have h1 : fl.any (fun o => o == .inr true) = false := hh
            have h2 := List.any_eq_false.mp h1 _ (List.mem_of_getElem? hq)
            exact absurd (show ((Sum.inr true : Nat ⊕ Bool) == Sum.inr true) = true by decide) h2
          | false => rfl
    rw [this]
theorem wsM_wrO {a : Nat → Nat} {cy : Nat → ClassId} {M : Mem} {i k ci : Nat} {fl : List (Nat ⊕ Bool)} {v : Int32} (hs : shp i = objS ci fl) (hk : fl[k]? = some (.inr false)) : (wsM a cy M).set i (a i, .inr (ci, (fl.mapIdx (fun k o => fval a M i k o)).set k (.int v))) = wsM a cy (wr M i k v) :=
  wsM_set (by rw [cont_of hs]; show (Sum.inr (ci, fl.mapIdx (fun k' o => fval a (wr M i k v) i k' o)) : va_E) = _; rw [mapIdx_set hk]) (fun j _ hj => contS_ext (wr_ne hj) rfl)
theorem wsM_wrJ {a : Nat → Nat} {cy : Nat → ClassId} {M : Mem} {i k ci : Nat} {fl : List (Nat ⊕ Bool)} {v : Int64} (h157 : i = 157) (hs : shp i = objS ci fl) (hk : fl[k]? = some (.inr true)) (hj : ∀ q, fl[q]? = some (.inr true) → q = k) : (wsM a cy M).set i (a i, .inr (ci, (fl.mapIdx (fun k o => fval a M i k o)).set k (.long v))) = wsM a cy (wrJ M v) :=
  wsM_set (by rw [cont_of hs]; show (Sum.inr (ci, fl.mapIdx (fun k' o => fval a (wrJ M v) i k' o)) : va_E) = _; rw [mapIdx_setJ hk hj]) (fun j hl hj => contS_J (noJ j hl (by rw [← h157]; exact hj)))
-- combinators of the decompiled methods
def nm {α β : Type} (x : α) (k : α → β) : β := k x
def ck {α : Type} (i : Int32) (n : Nat) (k : Option α) : Option α := if i < 0 ∨ n ≤ i.toNatClampNeg then none else k
def zk {α : Type} (x : Int32) (k : Option α) : Option α := if x = 0 ∨ x = 1 then k else none
def nz {α : Type} (x : Int32) (k : Option α) : Option α := if x = 0 then none else k
def nzl {α : Type} (x : Int64) (k : Option α) : Option α := if x = 0 then none else k
def bd {α β : Type} (x : Option α) (k : α → Option β) : Option β := match x with
  | none => none
  | some y => k y
def bd2 {α β γ : Type} (x : Option (α × β)) (k : α → β → Option γ) : Option γ := match x with
  | none => none
  | some (y, z) => k y z
def cpk {α : Type} (sp dp n : Int32) (n0 n1 : Nat) (k : Option α) : Option α := if sp < 0 ∨ dp < 0 ∨ n < 0 ∨ n0 < sp.toNatClampNeg + n.toNatClampNeg ∨ n1 < dp.toNatClampNeg + n.toNatClampNeg then none else k
theorem nm_of {α β : Type} {x e : α} {k : α → Option β} {o : β} (h : x = e) (hf : nm e k = some o) : k x = some o := by rw [h]; exact hf
theorem ck_some {α : Type} {i : Int32} {n : Nat} {k : Option α} {o : α} (hf : ck i n k = some o) : vp_in i n ∧ k = some o := by
  unfold ck at hf
  by_cases h : i < 0 ∨ n ≤ i.toNatClampNeg
  · rw [if_pos h] at hf
    cases hf
  · rw [if_neg h] at hf
    exact ⟨h, hf⟩
theorem zk_some {α : Type} {x : Int32} {k : Option α} {o : α} (hf : zk x k = some o) : (x = 0 ∨ x = 1) ∧ k = some o := by
  unfold zk at hf
  by_cases h : x = 0 ∨ x = 1
  · rw [if_pos h] at hf
    exact ⟨h, hf⟩
  · rw [if_neg h] at hf
    cases hf
theorem nz_some {α : Type} {x : Int32} {k : Option α} {o : α} (hf : nz x k = some o) : ¬ x = 0 ∧ k = some o := by
  unfold nz at hf
  by_cases h : x = 0
  · rw [if_pos h] at hf
    cases hf
  · rw [if_neg h] at hf
    exact ⟨h, hf⟩
theorem nzl_some {α : Type} {x : Int64} {k : Option α} {o : α} (hf : nzl x k = some o) : ¬ x = 0 ∧ k = some o := by
  unfold nzl at hf
  by_cases h : x = 0
  · rw [if_pos h] at hf
    cases hf
  · rw [if_neg h] at hf
    exact ⟨h, hf⟩
theorem bd_some {α β : Type} {x : Option α} {k : α → Option β} {o : β} (hf : bd x k = some o) : ∃ y, x = some y ∧ k y = some o := by
  cases x with
  | none => cases hf
  | some y => exact ⟨y, rfl, hf⟩
theorem bd2_some {α β γ : Type} {x : Option (α × β)} {k : α → β → Option γ} {o : γ} (hf : bd2 x k = some o) : ∃ y z, x = some (y, z) ∧ k y z = some o := by
  cases x with
  | none => cases hf
  | some y => exact ⟨y.1, y.2, rfl, hf⟩
theorem cpk_some {α : Type} {sp dp n : Int32} {n0 n1 : Nat} {k : Option α} {o : α} (hf : cpk sp dp n n0 n1 k = some o) : (¬ sp < 0 ∧ ¬ dp < 0 ∧ ¬ n < 0 ∧ sp.toNatClampNeg + n.toNatClampNeg ≤ n0 ∧ dp.toNatClampNeg + n.toNatClampNeg ≤ n1) ∧ k = some o := by
  unfold cpk at hf
  by_cases h : sp < 0 ∨ dp < 0 ∨ n < 0 ∨ n0 < sp.toNatClampNeg + n.toNatClampNeg ∨ n1 < dp.toNatClampNeg + n.toNatClampNeg
  · rw [if_pos h] at hf
    cases hf
  · rw [if_neg h] at hf
    refine ⟨⟨fun q => h (Or.inl q), fun q => h (Or.inr (Or.inl q)), fun q => h (Or.inr (Or.inr (Or.inl q))), ?_, ?_⟩, hf⟩
    · exact Nat.not_lt.mp fun q => h (Or.inr (Or.inr (Or.inr (Or.inl q))))
    · exact Nat.not_lt.mp fun q => h (Or.inr (Or.inr (Or.inr (Or.inr q))))
theorem itep {α : Type} {c : Prop} {ins : Decidable c} {A B : Option α} {o : α} (h : c) (hf : (if c then A else B) = some o) : A = some o := by rw [if_pos h] at hf; exact hf
theorem iten {α : Type} {c : Prop} {ins : Decidable c} {A B : Option α} {o : α} (h : ¬ c) (hf : (if c then A else B) = some o) : B = some o := by rw [if_neg h] at hf; exact hf
set_option maxRecDepth 100000 in
theorem K3_0 : K3 (0 + 1) ∧ K3 (0 + 38) ∧ K3 (0 + 75 + 1 + 37 * 0) ∧ K3 (0 + 75 + 1 + 37 * 1) := by
  have h2 : ∀ e : Nat, shp e = objS 2 [.inl (e + 1), .inl (e + 2), .inl (e + 3), .inr false] → shp (e + 1) = iarr 30 → shp (e + 2) = iarr 30 → shp (e + 3) = iarr 30 → K2 e := fun e a b c d => ⟨a, b, c, d⟩
  refine ⟨⟨rfl, ⟨rfl, rfl, rfl, rfl, rfl, rfl, rfl, rfl⟩, rfl, rfl, rfl, rfl, fun p hp => ?_⟩, ⟨rfl, ⟨rfl, rfl, rfl, rfl, rfl, rfl, rfl, rfl⟩, rfl, rfl, rfl, rfl, fun p hp => ?_⟩, ⟨rfl, ⟨rfl, rfl, rfl, rfl, rfl, rfl, rfl, rfl⟩, rfl, rfl, rfl, rfl, fun p hp => ?_⟩, ⟨rfl, ⟨rfl, rfl, rfl, rfl, rfl, rfl, rfl, rfl⟩, rfl, rfl, rfl, rfl, fun p hp => ?_⟩⟩
  all_goals
    rcases (show p = 0 ∨ p = 1 ∨ p = 2 ∨ p = 3 ∨ p = 4 ∨ p = 5 by omega) with rfl | rfl | rfl | rfl | rfl | rfl <;> exact h2 _ rfl rfl rfl rfl
theorem K4_0 : K4 0 := ⟨rfl, K3_0.1, K3_0.2.1, rfl, fun p hp => by rcases (show p = 0 ∨ p = 1 by omega) with rfl | rfl; exact K3_0.2.2.1; exact K3_0.2.2.2, rfl, ⟨rfl, rfl, rfl, rfl, rfl⟩, rfl⟩
theorem K5_157 : K5 157 := ⟨rfl, rfl, rfl, rfl, rfl, rfl⟩
