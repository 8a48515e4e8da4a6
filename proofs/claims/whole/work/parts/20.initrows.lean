/-! rows for the constructors: a list of cells grows behind any list X that is there -/
def KZ (dC : Nat → ClassId) (dI : Nat → Nat → Nat) (cy : Nat → ClassId) (U : State) : Prop :=
  va_K (dC, dI) vwCl (tysU cy) U ∧ va_AO "SafeParts$Waiting" U ∧ va_AO "SafeParts$World" U ∧ va_Nw (.methodLinkNest RX3 11 yX0_init "SafeParts") U ∧ va_Nw (.methodLinkNest RX3 38 yX2_init "SafeParts") U ∧ va_Nw (.methodLinkNest RX4 29 yX1_init "SafeParts") U
theorem KZ.warm {dC : Nat → ClassId} {dI : Nat → Nat → Nat} {cy : Nat → ClassId} {s U : State} (hW : s.WarmedH U.vm) (h : KZ dC dI cy s) : KZ dC dI cy U :=
  ⟨va_K.moved hW.alike h.1, va_AO.moved hW.alike h.2.1, va_AO.moved hW.alike h.2.2.1, va_Nw.warmM hW h.2.2.2.1, va_Nw.warmM hW h.2.2.2.2.1, va_Nw.warmM hW h.2.2.2.2.2⟩
theorem KZ.same {dC : Nat → ClassId} {dI : Nat → Nat → Nat} {cy : Nat → ClassId} {s U : State} (hv : s.vm = U.vm) (h : KZ dC dI cy s) : KZ dC dI cy U :=
  have ha : s.vm.Alike U.vm := hv ▸ Vm.Alike.refl s.vm
  ⟨va_K.moved ha h.1, va_AO.moved ha h.2.1, va_AO.moved ha h.2.2.1, va_Nw.same rfl hv h.2.2.2.1, va_Nw.same rfl hv h.2.2.2.2.1, va_Nw.same rfl hv h.2.2.2.2.2⟩
def XI (dC : Nat → ClassId) (dI : Nat → Nat → Nat) (cy : Nat → ClassId) (p : Program) (s : State) (m : MethodId) (c : Code) (args : Array Value) (meth : Method) (cc : ByteArray) (nL : Nat) (own : String) : Prop :=
  CallFix p m c cc nL s args wsL_law own ∧ KZ dC dI cy s
def GI (dC : Nat → ClassId) (dI : Nat → Nat → Nat) (B : Nat) (ws : va_W) (H0 H : Heap) (locs : List Loc) : Prop :=
  va_P (dC, dI) vwCl ws H ∧ va_D (fun q => B ≤ q) ws ∧ va_S (fun q => B ≤ q) H0 H locs ∧ B ≤ H0.size
abbrev PI (dC : Nat → ClassId) (dI : Nat → Nat → Nat) (cy : Nat → ClassId) (B : Nat) (ws : va_W) (h0 : Nat) : Array Value → State → Prop := va_Pc [.ref h0] (fun U => B ≤ U.heap.size ∧ va_P (dC, dI) vwCl ws U.heap ∧ va_D (fun q => B ≤ q) ws ∧ KZ dC dI cy U)
abbrev QI (dC : Nat → ClassId) (dI : Nat → Nat → Nat) (B : Nat) (wf : (Nat → Nat) → va_W) (h0 : Nat) : Array Value → State → Outcome → State → Prop := va_Qv (fun q : Nat → Nat => q 0 = h0) (fun q t => va_P (dC, dI) vwCl (wf q) t.heap ∧ va_D (fun q => B ≤ q) (wf q)) (fun q => B ≤ q)
theorem PI_blind {dC : Nat → ClassId} {dI : Nat → Nat → Nat} {cy : Nat → ClassId} {B h0 : Nat} {ws : va_W} : FrameBlind (PI dC dI cy B ws h0) := fun v U g mk q => ⟨q.1, q.2.1, q.2.2.1, q.2.2.2.1, KZ.same (s := U) (U := U.calling g mk v) rfl q.2.2.2.2⟩
theorem K_int {dC : Nat → ClassId} {dI : Nat → Nat → Nat} {cy : Nat → ClassId} {s : State} {cA : ClassId} {k : Nat} {ty : FieldType} (hK : va_K (dC, dI) vwCl (tysU cy) s) (h1 : va_K (dC, dI) vwCl (tysU cy ++ [(cA, ty)]) s) (hk : (tysU cy)[k]? = some (cy k, ty)) (hu : ∀ c1 c2 : ClassId, va_RA s c1 ty → va_RA s c2 ty → c1 = c2) : cA = cy k :=
  hu _ _ (h1.2 4 (cA, ty) rfl).2 (hK.2 k (cy k, ty) hk).2
theorem RA_prim {s : State} {ty : FieldType} (h : ∀ C, ty ≠ .object C) : ∀ c1 c2 : ClassId, va_RA s c1 ty → va_RA s c2 ty → c1 = c2 := by
  intro c1 c2 h1 h2
  cases ty with
  | object C => exact absurd rfl (h C)
  | _ => exact Option.some.inj ((show s.vm.findClass _ = some c1 from h1).symm.trans h2)
theorem RA_obj {s : State} {C : String} : ∀ c1 c2 : ClassId, va_RA s c1 (.object C) → va_RA s c2 (.object C) → c1 = c2 := by
  intro c1 c2 ⟨_, _, _, _, _, h1⟩ ⟨_, _, _, _, _, h2⟩
  exact Option.some.inj (h1.symm.trans h2)
theorem arrV_congr {cA : ClassId} {n : Nat} {f g : Nat → Value} (h : ∀ j, j < n → f j = g j) : arrV cA n f = arrV cA n g := by
  unfold arrV
  congr 1
  apply congrArg
  funext j
  exact h j.val j.isLt
theorem app_at {X Y : va_W} {k : Nat} {q : Nat × va_E} (h : Y[k]? = some q) : (X ++ Y)[X.length + k]? = some q := by
  rw [List.getElem?_append_right (Nat.le_add_right _ _), Nat.add_sub_cancel_left]; exact h
theorem app_set {X Y : va_W} {k : Nat} {q : Nat × va_E} : (X ++ Y).set (X.length + k) q = X ++ Y.set k q := by
  rw [List.set_append_right _ _ (Nat.le_add_right _ _), Nat.add_sub_cancel_left]
section CI
variable {p : Program} {l : Launch} {e : Env} {R : Room} {s : State} {m : MethodId} {args : Array Value} {below : List Frame} {meth : Method} {c : Code} {H : Heap} {locs : List Loc} {cells slots : Nat} {Q : State → Prop} {dC : Nat → ClassId} {dI : Nat → Nat → Nat} {cy : Nat → ClassId} {cc : ByteArray} {nL : Nat} {own : String} {H0 : Heap} {B : Nat} {pc : Nat} {ls : Array Slot} {rest : List Value} {X Y : va_W} {q0 : Nat} {e0 : va_E}
theorem GI_congr {k aq n : Nat} {cA : ClassId} {f g : Nat → Option Nat} (hG : GI dC dI B (X ++ Y) H0 H locs) (hk : Y[k]? = some (aq, .inl (cA, n, .inr (.inr (.inr (.inr f)))))) (hfg : ∀ j, j < n → f j = g j) : GI dC dI B (X ++ Y.set k (aq, .inl (cA, n, .inr (.inr (.inr (.inr g)))))) H0 H locs := by
  rw [← app_set]
  refine ⟨?_, hG.2.1.set (app_at hk), hG.2.2⟩
  refine hG.1.set hG.2.1 (app_at hk) ?_ (fun _ _ => rfl)
  have h := hG.1 _ _ (app_at hk)
  have h : H[aq]? = some (arrV cA n (fun j => va_rf (f j))) := h
  show H[aq]? = some (arrV cA n (fun j => va_rf (g j)))
  rw [h, arrV_congr (fun j hj => by rw [hfg j hj])]
theorem ci_new (Z : XI dC dI cy p s m c args meth cc nL own) (hG : GI dC dI B (X ++ Y) s.heap H locs) {ci N index : Nat} {C : String} {T : u_T} {ty : Nat → FieldType} {fs : List Value} (hty : ∀ k, k < N → parseFieldDescriptor (T k).2.2.1 = some (ty k)) (hin : ∀ w ∈ u_ws C T N, w ∈ wsL_law) (h1 : Cond.classLink own index C ∈ wsL_law) (h2 : Cond.instantiable C N ∈ wsL_law) (h3 : Cond.initialized C ∈ wsL_law) (hc : vwCl[ci]? = some (C, T, N)) (hfs : ∀ j, j < N → defaultValue (ty j) = vp_V fs j) (hcells : cells + 1 ≤ R.cells) (hslots : slots + N ≤ R.slots) (hdg : decode cc pc = .ok (.new index, 3))
    (kk : ∀ (q : Nat) (H1 : Heap), GI dC dI B (X ++ (Y ++ [(q, .inr (ci, fs))])) s.heap H1 locs → W p l e R s m args below meth c H1 locs (cells + 1) (slots + N) Q (F0 m (pc + 3) ls (.ref q :: rest))) : W p l e R s m args below meth c H locs cells slots Q (F0 m pc ls rest) := by
  refine va_new (D := (dC, dI)) Z.1.1 Z.1.2.1 Z.1.2.2.2.2 hin ty hty Z.1.2.2.2.1 (Z.1.2.2.2.2 _ h1) (Z.1.2.2.2.2 _ h2) (Z.1.2.2.2.2 _ h3) Z.2.1 hG.1 hG.2.1 hG.2.2.1 (fun q h => Nat.le_trans hG.2.2.2 h) hc hfs hcells hslots hdg (fun q H1 hP hD hS => ?_)
  rw [List.append_assoc] at hP hD
  exact kk q H1 ⟨hP, hD, hS, hG.2.2.2⟩
theorem ci_newi (Z : XI dC dI cy p s m c args meth cc nL own) (hG : GI dC dI B (X ++ Y) s.heap H locs) {n : Int32} {N : Nat} (hn : ¬ n < 0) (hN : n.toNatClampNeg = N) (hbytes : N * 4 ≤ 536870912) (hcells : cells + 1 ≤ R.cells) (hslots : slots + N ≤ R.slots) (hdg : decode cc pc = .ok (.newarray .int, 2))
    (kk : ∀ (q : Nat) (H1 : Heap), GI dC dI B (X ++ (Y ++ [(q, .inl (cy 0, N, .inl (fun _ => 0)))])) s.heap H1 locs → W p l e R s m args below meth c H1 locs (cells + 1) (slots + N) Q (F0 m (pc + 2) ls (.ref q :: rest))) : W p l e R s m args below meth c H locs cells slots Q (F0 m pc ls (.int n :: rest)) := by
  refine va_newa (D := (dC, dI)) (atype := .int) (ty := .int) (a0 := (N, .inl (fun _ => 0))) Z.1.1 Z.1.2.1 (Z.1.2.2.2.2 _ wd_ac_int) rfl Z.2.1 hG.1 hG.2.1 hG.2.2.1 (fun q h => Nat.le_trans hG.2.2.2 h) (fun cA => rfl) hn hN hbytes hcells hslots hdg (fun q cA H1 hK hP hD hS => ?_)
  have he : cA = cy 0 := K_int (k := 0) Z.2.1 hK rfl (RA_prim (fun C h => by cases h))
  subst he
  rw [List.append_assoc] at hP hD
  exact kk q H1 ⟨hP, hD, hS, hG.2.2.2⟩
theorem ci_newz (Z : XI dC dI cy p s m c args meth cc nL own) (hG : GI dC dI B (X ++ Y) s.heap H locs) {n : Int32} {N : Nat} (hn : ¬ n < 0) (hN : n.toNatClampNeg = N) (hbytes : N * 1 ≤ 536870912) (hcells : cells + 1 ≤ R.cells) (hslots : slots + N ≤ R.slots) (hdg : decode cc pc = .ok (.newarray .boolean, 2))
    (kk : ∀ (q : Nat) (H1 : Heap), GI dC dI B (X ++ (Y ++ [(q, .inl (cy 1, N, .inl (fun _ => 0)))])) s.heap H1 locs → W p l e R s m args below meth c H1 locs (cells + 1) (slots + N) Q (F0 m (pc + 2) ls (.ref q :: rest))) : W p l e R s m args below meth c H locs cells slots Q (F0 m pc ls (.int n :: rest)) := by
  refine va_newa (D := (dC, dI)) (atype := .boolean) (ty := .boolean) (a0 := (N, .inl (fun _ => 0))) Z.1.1 Z.1.2.1 (Z.1.2.2.2.2 _ wd_ac_boolean) rfl Z.2.1 hG.1 hG.2.1 hG.2.2.1 (fun q h => Nat.le_trans hG.2.2.2 h) (fun cA => rfl) hn hN hbytes hcells hslots hdg (fun q cA H1 hK hP hD hS => ?_)
  have he : cA = cy 1 := K_int (k := 1) Z.2.1 hK rfl (RA_prim (fun C h => by cases h))
  subst he
  rw [List.append_assoc] at hP hD
  exact kk q H1 ⟨hP, hD, hS, hG.2.2.2⟩
theorem ci_newq (Z : XI dC dI cy p s m c args meth cc nL own) (hG : GI dC dI B (X ++ Y) s.heap H locs) {n : Int32} {N k index : Nat} {C : String} (hk : (tysU cy)[k]? = some (cy k, .object C)) (ho : va_AO C s) (hl : Cond.classLink own index C ∈ wsL_law) (hn : ¬ n < 0) (hN : n.toNatClampNeg = N) (hbytes : N * 4 ≤ 536870912) (hcells : cells + 1 ≤ R.cells) (hslots : slots + N ≤ R.slots) (hdg : decode cc pc = .ok (.anewarray index, 3))
    (kk : ∀ (q : Nat) (H1 : Heap), GI dC dI B (X ++ (Y ++ [(q, .inl (cy k, N, .inr (.inr (.inr (.inr (fun _ => none))))))])) s.heap H1 locs → W p l e R s m args below meth c H1 locs (cells + 1) (slots + N) Q (F0 m (pc + 3) ls (.ref q :: rest))) : W p l e R s m args below meth c H locs cells slots Q (F0 m pc ls (.int n :: rest)) := by
  refine va_newq (D := (dC, dI)) Z.1.1 Z.1.2.1 Z.1.2.2.2.1 (Z.1.2.2.2.2 _ hl) ho Z.2.1 hG.1 hG.2.1 hG.2.2.1 (fun q h => Nat.le_trans hG.2.2.2 h) hn hN hbytes hcells hslots hdg (fun q cA H1 hK hP hD hS => ?_)
  have he : cA = cy k := K_int (k := k) Z.2.1 hK hk RA_obj
  subst he
  rw [List.append_assoc] at hP hD
  exact kk q H1 ⟨hP, hD, hS, hG.2.2.2⟩
theorem ci_putF (Z : XI dC dI cy p s m c args meth cc nL own) (hnm0 : meth.name = "<init>") (hG : GI dC dI B (X ++ Y) s.heap H locs) {h0 ci k N index kq : Nat} {fs : List Value} {C : String} {T : u_T} {v : Value} {ty : Nat → FieldType} {t : FieldType} (hty : ∀ k, k < N → parseFieldDescriptor (T k).2.2.1 = some (ty k)) (hnm : ∀ a, a < N → ∀ b, b < N → a ≠ b → (T a).2.1 ≠ (T b).2.1) (hin : ∀ w ∈ u_ws C T N, w ∈ wsL_law) (hc : vwCl[ci]? = some (C, T, N)) (hY : Y[kq]? = some (h0, .inr (ci, fs))) (hkN : k < N) (hl : Cond.fieldLink own index (T k).1 (T k).2.1 (T k).2.2.1 ∈ wsL_law) (hfin : (T k).2.2.2 = true) (hdecl : (T k).1 = own) (hd : parseFieldDescriptor (T k).2.2.1 = some t) (hn : narrow t v = v) (hfit : fits t v = true) (hlen : k < fs.length) (hdg : decode cc pc = .ok (.putfield index, 3))
    (kk : ∀ (H1 : Heap) (locs1 : List Loc), GI dC dI B (X ++ Y.set kq (h0, .inr (ci, fs.set k v))) s.heap H1 locs1 → W p l e R s m args below meth c H1 locs1 cells slots Q (F0 m (pc + 3) ls rest)) : W p l e R s m args below meth c H locs cells slots Q (F0 m pc ls (v :: .ref h0 :: rest)) := by
  refine va_putF (D := (dC, dI)) (ty := t) Z.1.1 Z.1.2.1 Z.1.2.2.2.2 hin ty hty hnm Z.1.2.2.2.1 Z.2.1 hG.1 hG.2.1 hG.2.2.1 (X.length + kq) (app_at hY) hc k hkN (Z.1.2.2.2.2 _ hl) (fun _ h9 => h9) hfin hnm0 hdecl hd hn hfit hlen hdg (fun H1 locs1 hP hD hS => ?_)
  rw [app_set] at hP hD
  exact kk H1 locs1 ⟨hP, hD, hS, hG.2.2.2⟩
theorem ci_put (Z : XI dC dI cy p s m c args meth cc nL own) (hG : GI dC dI B (X ++ Y) s.heap H locs) {h0 ci k N index kq : Nat} {fs : List Value} {C : String} {T : u_T} {v : Value} {ty : Nat → FieldType} {t : FieldType} (hty : ∀ k, k < N → parseFieldDescriptor (T k).2.2.1 = some (ty k)) (hnm : ∀ a, a < N → ∀ b, b < N → a ≠ b → (T a).2.1 ≠ (T b).2.1) (hin : ∀ w ∈ u_ws C T N, w ∈ wsL_law) (hc : vwCl[ci]? = some (C, T, N)) (hY : Y[kq]? = some (h0, .inr (ci, fs))) (hkN : k < N) (hl : Cond.fieldLink own index (T k).1 (T k).2.1 (T k).2.2.1 ∈ wsL_law) (hfin : (T k).2.2.2 = false) (hd : parseFieldDescriptor (T k).2.2.1 = some t) (hn : narrow t v = v) (hfit : fits t v = true) (hlen : k < fs.length) (hdg : decode cc pc = .ok (.putfield index, 3))
    (kk : ∀ (H1 : Heap) (locs1 : List Loc), GI dC dI B (X ++ Y.set kq (h0, .inr (ci, fs.set k v))) s.heap H1 locs1 → W p l e R s m args below meth c H1 locs1 cells slots Q (F0 m (pc + 3) ls rest)) : W p l e R s m args below meth c H locs cells slots Q (F0 m pc ls (v :: .ref h0 :: rest)) := by
  refine va_put (D := (dC, dI)) (ty := t) Z.1.1 Z.1.2.1 Z.1.2.2.2.2 hin ty hty hnm Z.1.2.2.2.1 Z.2.1 hG.1 hG.2.1 hG.2.2.1 (X.length + kq) (app_at hY) hc k hkN (Z.1.2.2.2.2 _ hl) (fun _ h9 => h9) hfin hd hn hfit hlen hdg (fun H1 locs1 hP hD hS => ?_)
  rw [app_set] at hP hD
  exact kk H1 locs1 ⟨hP, hD, hS, hG.2.2.2⟩
theorem ci_get (Z : XI dC dI cy p s m c args meth cc nL own) (hG : GI dC dI B (X ++ Y) s.heap H locs) {h0 ci k N index kq : Nat} {fs : List Value} {C : String} {T : u_T} {v : Value} (hin : ∀ w ∈ u_ws C T N, w ∈ wsL_law) (hc : vwCl[ci]? = some (C, T, N)) (hY : Y[kq]? = some (h0, .inr (ci, fs))) (hkN : k < N) (hl : Cond.fieldLink own index (T k).1 (T k).2.1 (T k).2.2.1 ∈ wsL_law) (hv : fs[k]? = some v) (hdg : decode cc pc = .ok (.getfield index, 3))
    (kk : W p l e R s m args below meth c H locs cells slots Q (F0 m (pc + 3) ls (v :: rest))) : W p l e R s m args below meth c H locs cells slots Q (F0 m pc ls (.ref h0 :: rest)) :=
  va_get (D := (dC, dI)) Z.1.1 Z.1.2.1 Z.1.2.2.2.2 hin Z.1.2.2.2.1 Z.2.1 hG.1 (X.length + kq) (app_at hY) hc k hkN (Z.1.2.2.2.2 _ hl) (fun _ h9 => h9) hv hdg kk
theorem ci_ast (Z : XI dC dI cy p s m c args meth cc nL own) (hG : GI dC dI B (X ++ Y) s.heap H locs) {h0 v ci k kq kv n : Nat} {vs : List Value} {r : vw_C} {f : Nat → Option Nat} {i : Int32} (hY : Y[kq]? = some (h0, .inl (cy k, n, .inr (.inr (.inr (.inr f)))))) (ht : (tysU cy)[k]? = some (cy k, .object r.1)) (hV : Y[kv]? = some (v, .inr (ci, vs))) (hc : vwCl[ci]? = some r) (hin : vp_in i n) (hdg : decode cc pc = .ok (.aastore, 1))
    (kk : ∀ (H1 : Heap) (locs1 : List Loc), GI dC dI B (X ++ Y.set kq (h0, .inl (cy k, n, .inr (.inr (.inr (.inr (va_up f i.toNatClampNeg (some v)))))))) s.heap H1 locs1 → W p l e R s m args below meth c H1 locs1 cells slots Q (F0 m (pc + 1) ls rest)) : W p l e R s m args below meth c H locs cells slots Q (F0 m pc ls (.ref v :: .int i :: .ref h0 :: rest)) := by
  refine va_astq (D := (dC, dI)) Z.1.1 Z.1.2.1 Z.2.1 hG.1 hG.2.1 hG.2.2.1 (X.length + kq) k (X.length + kv) ci (app_at hY) ht (app_at hV) hc hin hdg (fun H1 locs1 hP hD hS => ?_)
  rw [app_set] at hP hD
  exact kk H1 locs1 ⟨hP, hD, hS, hG.2.2.2⟩
theorem ci_callN (Z : XI dC dI cy p s m c args meth cc nL own) (hG : GI dC dI B (X ++ (Y ++ [(q0, e0)])) s.heap H locs) {y : MethodName} {bytes : ByteArray} {maxL index mc ms : Nat} {host : String} {rm : Room} {wf : (Nat → Nat) → va_W} (hM : Met l y (wsU y bytes maxL none) rm (PI dC dI cy B ((X ++ Y) ++ [(q0, e0)]) q0) (QI dC dI B (fun q => (X ++ Y) ++ wf q) q0) mc ms (fun q => B ≤ q)) (cw : va_CN R s args own index y host bytes maxL none (wsU y bytes maxL none) rm mc ms 0 ∧ y.name = "<init>" ∧ (Cond.instanceMethod y).before args s = true) (hsz : ls.size = nL) (hW : (rest.map fun v => v.category).sum ≤ 8) (hdg : decode cc pc = .ok (.invokespecial index, 3)) (hf : cells + mc ≤ R.cells ∧ slots + ms ≤ R.slots)
    (kk : ∀ (q : Nat → Nat) (H1 : Heap) (locs1 : List Loc), q 0 = q0 → GI dC dI B (X ++ (Y ++ wf q)) s.heap H1 locs1 → W p l e R s m args below meth c H1 locs1 (cells + mc) (slots + ms) Q (F0 m (pc + 3) ls rest)) : W p l e R s m args below meth c H locs cells slots Q (F0 m pc ls (.ref q0 :: rest)) := by
  refine va_callv (va_runIN (As := []) (rest := rest) (g := F0 m pc ls (.ref q0 :: rest)) Z.1 hM cw ⟨PI_blind, fun U hU hW9 => ⟨rfl, by rw [hU]; exact Nat.le_trans hG.2.2.2 hG.2.2.1.1, by rw [hU, List.append_assoc]; exact hG.1, by rw [List.append_assoc]; exact hG.2.1, Z.2.warm hW9⟩⟩ rfl rfl hsz rfl (lv_room hW) hdg hf) hG.2.2.1 (fun q _ h => h) (fun q h => h) (fun u t H1 locs1 ht hvm hw hB hz1 hk1 hS => ?_)
  obtain ⟨hP1, hD1⟩ := hB
  dsimp only at hP1 hD1
  rw [List.append_assoc] at hP1 hD1
  exact kk u H1 locs1 hw ⟨by rw [← ht]; exact hP1, hD1, hS, hG.2.2.2⟩
theorem ci_callI (Z : XI dC dI cy p s m c args meth cc nL own) (hG : GI dC dI B (X ++ (Y ++ [(q0, e0)])) s.heap H locs) {y : MethodName} {bytes : ByteArray} {maxL index mc ms : Nat} {rm : Room} {wf : (Nat → Nat) → va_W} (hM : Met l y (wsU y bytes maxL none) rm (PI dC dI cy B ((X ++ Y) ++ [(q0, e0)]) q0) (QI dC dI B (fun q => (X ++ Y) ++ wf q) q0) mc ms (fun q => B ≤ q)) (cw : CallB R s args own index y bytes maxL none (wsU y bytes maxL none) rm mc ms 0 ∧ y.name = "<init>" ∧ (Cond.instanceMethod y).before args s = true) (hsz : ls.size = nL) (hW : (rest.map fun v => v.category).sum ≤ 8) (hdg : decode cc pc = .ok (.invokespecial index, 3)) (hf : cells + mc ≤ R.cells ∧ slots + ms ≤ R.slots)
    (kk : ∀ (q : Nat → Nat) (H1 : Heap) (locs1 : List Loc), q 0 = q0 → GI dC dI B (X ++ (Y ++ wf q)) s.heap H1 locs1 → W p l e R s m args below meth c H1 locs1 (cells + mc) (slots + ms) Q (F0 m (pc + 3) ls rest)) : W p l e R s m args below meth c H locs cells slots Q (F0 m pc ls (.ref q0 :: rest)) := by
  refine va_callv (va_runI (As := []) (rest := rest) (g := F0 m pc ls (.ref q0 :: rest)) Z.1 hM cw ⟨PI_blind, fun U hU hW9 => ⟨rfl, by rw [hU]; exact Nat.le_trans hG.2.2.2 hG.2.2.1.1, by rw [hU, List.append_assoc]; exact hG.1, by rw [List.append_assoc]; exact hG.2.1, Z.2.warm hW9⟩⟩ rfl rfl hsz rfl (lv_room hW) hdg hf) hG.2.2.1 (fun q _ h => h) (fun q h => h) (fun u t H1 locs1 ht hvm hw hB hz1 hk1 hS => ?_)
  obtain ⟨hP1, hD1⟩ := hB
  dsimp only at hP1 hD1
  rw [List.append_assoc] at hP1 hD1
  exact kk u H1 locs1 hw ⟨by rw [← ht]; exact hP1, hD1, hS, hG.2.2.2⟩
theorem ci_ret (Z : XI dC dI cy p s m c args meth cc nL own) (hr : meth.sig.returnType = none) (hlocks : meth.locks = false) {wf : (Nat → Nat) → va_W} {h0 : Nat} (q : Nat → Nat) (hq : q 0 = h0) (hG : GI dC dI B (wf q) s.heap H locs) (hdg : decode cc pc = .ok (.return_, 1)) : W p l e R s m args below meth c H locs cells slots (MQ below (QI dC dI B wf h0) args s cells slots (fun q => B ≤ q)) (F0 m pc ls []) :=
  W.vret Z.1.1 Z.1.2.1 hr (fun t ht hW => ⟨⟨q, rfl, hq, ⟨by rw [ht]; exact hG.1, hG.2.1⟩⟩, hG.2.2.1.F ht⟩) hG.2.2.1.2.2 hdg hlocks
end CI
theorem ci_met {l : Launch} {dC : Nat → ClassId} {dI : Nat → Nat → Nat} {cy : Nat → ClassId} {B : Nat} {ws : va_W} {h0 : Nat} {y : MethodName} {cc : ByteArray} {nL mc ms : Nat} {rm : Room} {Qc : Array Value → State → Outcome → State → Prop} (hy : plainName y.cls = true) (hini : y.name = "<init>") (hle : 1 ≤ nL)
    (body : ∀ (p : Program) (e : Env) (s : State) (m : MethodId) (below : List Frame) (meth : Method) (c : Code) (ls : Array Slot), XI dC dI cy p s m c #[.ref h0] meth cc nL y.cls → meth.name = "<init>" → meth.sig.returnType = none → meth.locks = false → GI dC dI B ws s.heap s.heap [] → lv_has ls nL [(0, .ref h0)] → W p l e rm s m #[.ref h0] below meth c s.heap [] 0 0 (MQ below Qc #[.ref h0] s mc ms (fun q => B ≤ q)) (F0 m 0 ls [])) : Met l y (wsU y cc nL none) rm (PI dC dI cy B ws h0) Qc mc ms (fun q => B ≤ q) := by
  refine Met.ofW (cc := cc) (maxL := nL) (ret := none) hy rfl ?_
  intro p e s m args below meth c s₁ B9 hml hv
  obtain ⟨rfl, hB, hP, hD, hK⟩ := hv
  have hts := atoms_spec (ws := wsU y cc nL none) B9.pre
  have hin : meth.name = y.name := (name_of_methodNamed B9.named B9.method).1
  rw [lg_entry_eq]
  exact body p e s m below meth c _ ⟨⟨B9.exec, B9.bytes, hml, findClass_of_methodNamed B9.named, fun w hw => hts w (List.mem_cons_of_mem _ hw)⟩, hK⟩ (hin.trans hini) B9.returns B9.notSynchronized ⟨hP, hD, va_S.rf, hB⟩ (lv_entry [.ref h0] hle)
