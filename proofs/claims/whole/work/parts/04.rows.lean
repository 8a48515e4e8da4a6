/-! the kit's rows, over the ONE picture -/
def XU (dC : Nat → ClassId) (dI : Nat → Nat → Nat) (cy : Nat → ClassId) (a : Nat → Nat) (p : Program) (s : State) (m : MethodId) (c : Code) (args : Array Value) (meth : Method) (cc : ByteArray) (nL : Nat) (own : String) (ret : Option FieldType) : Prop :=
  CallFix p m c cc nL s args wsL_law own ∧ va_K (dC, dI) vwCl (tysU cy) s ∧ injU a ∧ meth.sig.returnType = ret ∧ meth.locks = false
def GU (dC : Nat → ClassId) (dI : Nat → Nat → Nat) (cy : Nat → ClassId) (a : Nat → Nat) (H0 : Heap) (M : Mem) (H : Heap) (locs : List Loc) : Prop :=
  va_P (dC, dI) vwCl (wsM a cy M) H ∧ va_S (AU a) H0 H locs
def BU (dC : Nat → ClassId) (dI : Nat → Nat → Nat) (cy : Nat → ClassId) (a : Nat → Nat) (u : Mem) (t : State) : Prop := va_P (dC, dI) vwCl (wsM a cy u) t.heap
abbrev QUi (dC : Nat → ClassId) (dI : Nat → Nat → Nat) (cy : Nat → ClassId) (a : Nat → Nat) (r : Int32) (M : Mem) : Array Value → State → Outcome → State → Prop := va_Qi (fun r' u => r' = r ∧ u = M) (BU dC dI cy a) (AU a)
abbrev QUl (dC : Nat → ClassId) (dI : Nat → Nat → Nat) (cy : Nat → ClassId) (a : Nat → Nat) (r : Int64) (M : Mem) : Array Value → State → Outcome → State → Prop := va_Ql (fun r' u => r' = r ∧ u = M) (BU dC dI cy a) (AU a)
abbrev QUv (dC : Nat → ClassId) (dI : Nat → Nat → Nat) (cy : Nat → ClassId) (a : Nat → Nat) (M : Mem) : Array Value → State → Outcome → State → Prop := va_Qv (fun u => u = M) (BU dC dI cy a) (AU a)
abbrev PU (dC : Nat → ClassId) (dI : Nat → Nat → Nat) (cy : Nat → ClassId) (a : Nat → Nat) (vs : List Value) (M : Mem) : Array Value → State → Prop := va_Pc vs (fun U => va_P (dC, dI) vwCl (wsM a cy M) U.heap ∧ va_K (dC, dI) vwCl (tysU cy) U)
theorem PU_blind {dC : Nat → ClassId} {dI : Nat → Nat → Nat} {cy : Nat → ClassId} {a : Nat → Nat} {vs : List Value} {M : Mem} : FrameBlind (PU dC dI cy a vs M) := fun v U g mk q => ⟨q.1, q.2.1, va_K.moved (u := U) (U := U.calling g mk v) (Vm.Alike.refl U.vm) q.2.2⟩
theorem gself : GoodIn wsL_law wsL_law := goodIn_sub (fun _ h => h) (by decide +kernel)
abbrev wsU (y : MethodName) (cc : ByteArray) (nL : Nat) (ret : Option FieldType) : List Cond := Cond.code y cc nL ret :: wsL_law
theorem gU {y : MethodName} {cc : ByteArray} {nL : Nat} {ret : Option FieldType} (h : Cond.code y cc nL ret ∈ wsL_law) : GoodIn wsL_law (wsU y cc nL ret) := fun w hw => (List.mem_cons.mp hw).elim (fun e => by rw [e]; exact gself _ h) (gself w)
theorem gV {y : MethodName} {cc : ByteArray} {nL : Nat} {ret : Option FieldType} {own C : String} {idx : Nat} (h1 : Cond.methodLink own idx y ∈ wsL_law) (h2 : Cond.instanceMethod y ∈ wsL_law) (h3 : Cond.selects C y y ∈ wsL_law) (h4 : Cond.initialized C ∈ wsL_law) (h5 : Cond.code y cc nL ret ∈ wsL_law) : GoodIn wsL_law (wsV own idx C y (wsU y cc nL ret)) := by
  refine goodIn_app (fun w hw => ?_) (gU h5)
  rcases List.mem_cons.mp hw with e | hw
  · rw [e]; exact gself _ h1
  rcases List.mem_cons.mp hw with e | hw
  · rw [e]; exact gself _ h2
  rcases List.mem_cons.mp hw with e | hw
  · rw [e]; exact gself _ h3
  rcases List.mem_cons.mp hw with e | hw
  · rw [e]; exact gself _ h4
  · cases hw
theorem gS {y : MethodName} {cc : ByteArray} {nL : Nat} {ret : Option FieldType} {own : String} {idx : Nat} (h1 : Cond.methodLink own idx y ∈ wsL_law) (h2 : Cond.static y ∈ wsL_law) (h4 : Cond.initialized own ∈ wsL_law) (h5 : Cond.code y cc nL ret ∈ wsL_law) : GoodIn wsL_law (wsS own idx y (wsU y cc nL ret)) := by
  refine goodIn_app (fun w hw => ?_) (gU h5)
  rcases List.mem_cons.mp hw with e | hw
  · rw [e]; exact gself _ h1
  rcases List.mem_cons.mp hw with e | hw
  · rw [e]; exact gself _ h2
  rcases List.mem_cons.mp hw with e | hw
  · rw [e]; exact gself _ h4
  · cases hw
section MW
variable {p : Program} {l : Launch} {e : Env} {R : Room} {s : State} {m : MethodId} {args : Array Value} {below : List Frame} {meth : Method} {c : Code} {H : Heap} {locs : List Loc} {cells slots : Nat} {Q : State → Prop} {dC : Nat → ClassId} {dI : Nat → Nat → Nat} {cy : Nat → ClassId} {a : Nat → Nat} {cc : ByteArray} {nL : Nat} {own : String} {ret : Option FieldType} {H0 : Heap} {M : Mem} {pc : Nat} {ls : Array Slot} {rest : List Value}
theorem fl_at {M : Mem} {a : Nat → Nat} {i k : Nat} {fl : List (Nat ⊕ Bool)} {o : Nat ⊕ Bool} (hk : fl[k]? = some o) : (fl.mapIdx (fun k o => fval a M i k o))[k]? = some (fval a M i k o) := by
  rw [List.getElem?_mapIdx, hk]; rfl
theorem obj_lt {i ci : Nat} {fl : List (Nat ⊕ Bool)} (hs : shp i = objS ci fl) : i < 162 := shp_lt (by rw [hs]; intro h; cases h)
theorem iarr_lt {i n : Nat} (hs : shp i = iarr n) : i < 162 := shp_lt (by rw [hs]; intro h; cases h)
theorem rarr_lt {i n : Nat} {b : Bool} {f : Nat → Nat} (hs : shp i = rarr b n f) : i < 162 := shp_lt (by rw [hs]; intro h; cases h)
theorem zarr_lt {i n : Nat} (hs : shp i = zarr n) (hn : n ≠ 0) : i < 162 := shp_lt (by rw [hs]; intro h; exact hn (congrArg Prod.snd (Sum.inl.inj h)))
theorem at_obj {i ci : Nat} {fl : List (Nat ⊕ Bool)} (hs : shp i = objS ci fl) : (wsM a cy M)[i]? = some (a i, .inr (ci, fl.mapIdx (fun k o => fval a M i k o))) := by
  rw [wsM_at (obj_lt hs), cont_of hs]; rfl
theorem at_iarr {i n : Nat} (hs : shp i = iarr n) : (wsM a cy M)[i]? = some (a i, .inl (cy 0, n, .inl (M.1 i))) := by
  rw [wsM_at (iarr_lt hs), cont_of hs]; rfl
theorem at_zarr {i n : Nat} (hs : shp i = zarr n) (hn : n ≠ 0) : (wsM a cy M)[i]? = some (a i, .inl (cy 1, n, .inl (M.1 i))) := by
  rw [wsM_at (zarr_lt hs hn), cont_of hs]; rfl
theorem at_rarr0 {i n : Nat} {f : Nat → Nat} (hs : shp i = rarr false n f) : (wsM a cy M)[i]? = some (a i, .inl (cy 2, n, .inr (.inr (.inr (.inr (fun j => some (a (f j)))))))) := by
  rw [wsM_at (rarr_lt hs), cont_of hs]; rfl
theorem at_rarr1 {i n : Nat} {f : Nat → Nat} (hs : shp i = rarr true n f) : (wsM a cy M)[i]? = some (a i, .inl (cy 3, n, .inr (.inr (.inr (.inr (fun j => some (a (f j)))))))) := by
  rw [wsM_at (rarr_lt hs), cont_of hs]; rfl
theorem mw_get (X : XU dC dI cy a p s m c args meth cc nL own ret) (hG : GU dC dI cy a H0 M H locs) {i ci k N index : Nat} {fl : List (Nat ⊕ Bool)} {C : String} {T : u_T} {o : Nat ⊕ Bool} (hs : shp i = objS ci fl) (hk : fl[k]? = some o) (hc : vwCl[ci]? = some (C, T, N)) (hin : ∀ w ∈ u_ws C T N, w ∈ wsL_law) (hkN : k < N) (hl : Cond.fieldLink own index (T k).1 (T k).2.1 (T k).2.2.1 ∈ wsL_law) (hdg : decode cc pc = .ok (.getfield index, 3))
    (kk : W p l e R s m args below meth c H locs cells slots Q (F0 m (pc + 3) ls (fval a M i k o :: rest))) : W p l e R s m args below meth c H locs cells slots Q (F0 m pc ls (.ref (a i) :: rest)) :=
  va_get (D := (dC, dI)) X.1.1 X.1.2.1 X.1.2.2.2.2 hin X.1.2.2.2.1 X.2.1 hG.1 i (at_obj hs) hc k hkN (X.1.2.2.2.2 _ hl) (fun _ h9 => h9) (fl_at hk) hdg kk
theorem mw_put (X : XU dC dI cy a p s m c args meth cc nL own ret) (hG : GU dC dI cy a H0 M H locs) {i ci k N index : Nat} {fl : List (Nat ⊕ Bool)} {C : String} {T : u_T} {v : Int32} {ty : Nat → FieldType} (hty : ∀ k, k < N → parseFieldDescriptor (T k).2.2.1 = some (ty k)) (hnm : ∀ a, a < N → ∀ b, b < N → a ≠ b → (T a).2.1 ≠ (T b).2.1) (hs : shp i = objS ci fl) (hk : fl[k]? = some (.inr false)) (hc : vwCl[ci]? = some (C, T, N)) (hin : ∀ w ∈ u_ws C T N, w ∈ wsL_law) (hkN : k < N) (hl : Cond.fieldLink own index (T k).1 (T k).2.1 (T k).2.2.1 ∈ wsL_law) (hfin : (T k).2.2.2 = false) (hd : parseFieldDescriptor (T k).2.2.1 = some .int) (hdg : decode cc pc = .ok (.putfield index, 3))
    (kk : ∀ (M1 : Mem) (H1 : Heap) (locs1 : List Loc), M1 = wr M i k v → GU dC dI cy a H0 M1 H1 locs1 → W p l e R s m args below meth c H1 locs1 cells slots Q (F0 m (pc + 3) ls rest)) : W p l e R s m args below meth c H locs cells slots Q (F0 m pc ls (.int v :: .ref (a i) :: rest)) := by
  refine va_put (D := (dC, dI)) (ty := .int) X.1.1 X.1.2.1 X.1.2.2.2.2 hin ty hty hnm X.1.2.2.2.1 X.2.1 hG.1 (wsM_D X.2.2.1 M) hG.2 i (at_obj hs) hc k hkN (X.1.2.2.2.2 _ hl) (fun _ h9 => h9) hfin hd rfl rfl (by simpa using (List.getElem?_eq_some_iff.mp hk).1) hdg (fun H1 locs1 hP _ hS => ?_)
  rw [wsM_wrO hs hk] at hP
  exact kk _ H1 locs1 rfl ⟨hP, hS⟩
theorem mw_putJ (X : XU dC dI cy a p s m c args meth cc nL own ret) (hG : GU dC dI cy a H0 M H locs) {i ci k N index : Nat} {fl : List (Nat ⊕ Bool)} {C : String} {T : u_T} {v : Int64} {ty : Nat → FieldType} (hty : ∀ k, k < N → parseFieldDescriptor (T k).2.2.1 = some (ty k)) (hnm : ∀ a, a < N → ∀ b, b < N → a ≠ b → (T a).2.1 ≠ (T b).2.1) (h157 : i = 157) (hs : shp i = objS ci fl) (hk : fl[k]? = some (.inr true)) (hj : ∀ q, fl[q]? = some (.inr true) → q = k) (hc : vwCl[ci]? = some (C, T, N)) (hin : ∀ w ∈ u_ws C T N, w ∈ wsL_law) (hkN : k < N) (hl : Cond.fieldLink own index (T k).1 (T k).2.1 (T k).2.2.1 ∈ wsL_law) (hfin : (T k).2.2.2 = false) (hd : parseFieldDescriptor (T k).2.2.1 = some .long) (hdg : decode cc pc = .ok (.putfield index, 3))
    (kk : ∀ (M1 : Mem) (H1 : Heap) (locs1 : List Loc), M1 = wrJ M v → GU dC dI cy a H0 M1 H1 locs1 → W p l e R s m args below meth c H1 locs1 cells slots Q (F0 m (pc + 3) ls rest)) : W p l e R s m args below meth c H locs cells slots Q (F0 m pc ls (.long v :: .ref (a i) :: rest)) := by
  refine va_put (D := (dC, dI)) (ty := .long) X.1.1 X.1.2.1 X.1.2.2.2.2 hin ty hty hnm X.1.2.2.2.1 X.2.1 hG.1 (wsM_D X.2.2.1 M) hG.2 i (at_obj hs) hc k hkN (X.1.2.2.2.2 _ hl) (fun _ h9 => h9) hfin hd rfl rfl (by simpa using (List.getElem?_eq_some_iff.mp hk).1) hdg (fun H1 locs1 hP _ hS => ?_)
  rw [wsM_wrJ h157 hs hk hj] at hP
  exact kk _ H1 locs1 rfl ⟨hP, hS⟩
theorem mw_iald (X : XU dC dI cy a p s m c args meth cc nL own ret) (hG : GU dC dI cy a H0 M H locs) {i n : Nat} {x : Int32} (hs : shp i = iarr n) (hin : vp_in x n) (hdg : decode cc pc = .ok (.iaload, 1))
    (kk : W p l e R s m args below meth c H locs cells slots Q (F0 m (pc + 1) ls (.int (rd M i x.toNatClampNeg) :: rest))) : W p l e R s m args below meth c H locs cells slots Q (F0 m pc ls (.int x :: .ref (a i) :: rest)) :=
  va_iald (D := (dC, dI)) X.1.1 X.1.2.1 X.2.1 hG.1 i 0 (at_iarr hs) rfl hin hdg kk
theorem mw_zald (X : XU dC dI cy a p s m c args meth cc nL own ret) (hG : GU dC dI cy a H0 M H locs) {i n : Nat} {x : Int32} (hs : shp i = zarr n) (hn : n ≠ 0) (hin : vp_in x n) (hdg : decode cc pc = .ok (.baload, 1))
    (kk : W p l e R s m args below meth c H locs cells slots Q (F0 m (pc + 1) ls (.int (rd M i x.toNatClampNeg) :: rest))) : W p l e R s m args below meth c H locs cells slots Q (F0 m pc ls (.int x :: .ref (a i) :: rest)) :=
  va_zald (D := (dC, dI)) X.1.1 X.1.2.1 X.2.1 hG.1 i 1 (at_zarr hs hn) rfl hin hdg kk
theorem mw_iast (X : XU dC dI cy a p s m c args meth cc nL own ret) (hG : GU dC dI cy a H0 M H locs) {i n : Nat} {x v : Int32} (hs : shp i = iarr n) (hin : vp_in x n) (hdg : decode cc pc = .ok (.iastore, 1))
    (kk : ∀ (M1 : Mem) (H1 : Heap) (locs1 : List Loc), M1 = wr M i x.toNatClampNeg v → GU dC dI cy a H0 M1 H1 locs1 → W p l e R s m args below meth c H1 locs1 cells slots Q (F0 m (pc + 1) ls rest)) : W p l e R s m args below meth c H locs cells slots Q (F0 m pc ls (.int v :: .int x :: .ref (a i) :: rest)) := by
  refine va_iast (D := (dC, dI)) X.1.1 X.1.2.1 X.2.1 hG.1 (wsM_D X.2.2.1 M) hG.2 i 0 (at_iarr hs) rfl hin hdg (fun H1 locs1 hP _ hS => ?_)
  rw [wsM_wrA hs] at hP
  exact kk _ H1 locs1 rfl ⟨hP, hS⟩
theorem mw_zast (X : XU dC dI cy a p s m c args meth cc nL own ret) (hG : GU dC dI cy a H0 M H locs) {i n : Nat} {x v : Int32} (hs : shp i = zarr n) (hn : n ≠ 0) (hv : vp_nar .boolean v = v) (hin : vp_in x n) (hdg : decode cc pc = .ok (.bastore, 1))
    (kk : ∀ (M1 : Mem) (H1 : Heap) (locs1 : List Loc), M1 = wr M i x.toNatClampNeg v → GU dC dI cy a H0 M1 H1 locs1 → W p l e R s m args below meth c H1 locs1 cells slots Q (F0 m (pc + 1) ls rest)) : W p l e R s m args below meth c H locs cells slots Q (F0 m pc ls (.int v :: .int x :: .ref (a i) :: rest)) := by
  refine va_zast (D := (dC, dI)) X.1.1 X.1.2.1 X.2.1 hG.1 (wsM_D X.2.2.1 M) hG.2 i 1 (at_zarr hs hn) rfl hin hdg (fun H1 locs1 hP _ hS => ?_)
  rw [hv, wsM_wrZ hs] at hP
  exact kk _ H1 locs1 rfl ⟨hP, hS⟩
theorem mw_aald0 (X : XU dC dI cy a p s m c args meth cc nL own ret) (hG : GU dC dI cy a H0 M H locs) {i n : Nat} {f : Nat → Nat} {x : Int32} (hs : shp i = rarr false n f) (hin : vp_in x n) (hdg : decode cc pc = .ok (.aaload, 1))
    (kk : W p l e R s m args below meth c H locs cells slots Q (F0 m (pc + 1) ls (.ref (a (f x.toNatClampNeg)) :: rest))) : W p l e R s m args below meth c H locs cells slots Q (F0 m pc ls (.int x :: .ref (a i) :: rest)) :=
  va_aldq (D := (dC, dI)) X.1.1 X.1.2.1 X.2.1 hG.1 i 2 (at_rarr0 hs) rfl hin hdg kk
theorem mw_aald1 (X : XU dC dI cy a p s m c args meth cc nL own ret) (hG : GU dC dI cy a H0 M H locs) {i n : Nat} {f : Nat → Nat} {x : Int32} (hs : shp i = rarr true n f) (hin : vp_in x n) (hdg : decode cc pc = .ok (.aaload, 1))
    (kk : W p l e R s m args below meth c H locs cells slots Q (F0 m (pc + 1) ls (.ref (a (f x.toNatClampNeg)) :: rest))) : W p l e R s m args below meth c H locs cells slots Q (F0 m pc ls (.int x :: .ref (a i) :: rest)) :=
  va_aldq (D := (dC, dI)) X.1.1 X.1.2.1 X.2.1 hG.1 i 3 (at_rarr1 hs) rfl hin hdg kk
theorem mw_cp (X : XU dC dI cy a p s m c args meth cc nL own ret) (hG : GU dC dI cy a H0 M H locs) (hsz : ls.size = nL) {i0 i1 n0 n1 index : Nat} {sp dp n : Int32} (hs0 : shp i0 = iarr n0) (hs1 : shp i1 = iarr n1) (hg : ¬ sp < 0 ∧ ¬ dp < 0 ∧ ¬ n < 0 ∧ sp.toNatClampNeg + n.toNatClampNeg ≤ n0 ∧ dp.toNatClampNeg + n.toNatClampNeg ≤ n1) (hl : Cond.methodLink own index arraycopyName ∈ wsL_law) (hR : 1 ≤ R.frames ∧ (rest.map fun v => v.category).sum + (nativeFrameWords "java/lang/System" "arraycopy" 5 + 11) ≤ R.locals) (h2 : Cond.native arraycopyName ∈ wsL_law) (h3 : Cond.static arraycopyName ∈ wsL_law) (h4 : Cond.initialized "java/lang/System" ∈ wsL_law) (hdg : decode cc pc = .ok (.invokestatic index, 3))
    (kk : ∀ (M1 : Mem) (H1 : Heap) (locs1 : List Loc), M1 = cpM M i0 i1 sp.toNatClampNeg dp.toNatClampNeg n.toNatClampNeg → GU dC dI cy a H0 M1 H1 locs1 → W p l e R s m args below meth c H1 locs1 cells slots Q (F0 m (pc + 3) ls rest)) : W p l e R s m args below meth c H locs cells slots Q (F0 m pc ls (.int n :: .int dp :: .ref (a i1) :: .int sp :: .ref (a i0) :: rest)) := by
  refine va_copyi (D := (dC, dI)) (ty := .int) X.1.1 X.1.2.1 (X.1.2.2.1.trans hsz.symm) X.1.2.2.2.1 (X.1.2.2.2.2 _ hl) (X.1.2.2.2.2 _ h2) (X.1.2.2.2.2 _ h3) (X.1.2.2.2.2 _ h4) X.2.1 hG.1 (wsM_D X.2.2.1 M) hG.2 i0 i1 0 0 (at_iarr hs0) (at_iarr hs1) rfl rfl rfl hg.1 hg.2.1 hg.2.2.1 hg.2.2.2.1 hg.2.2.2.2 (fun _ _ => rfl) hR.1 hR.2 hdg (fun H1 locs1 hP _ hS => ?_)
  rw [wsM_cp hs1] at hP
  exact kk _ H1 locs1 rfl ⟨hP, hS⟩
theorem mw_recv (X : XU dC dI cy a p s m c args meth cc nL own ret) (hG : GU dC dI cy a H0 M H locs) {i ci N : Nat} {fl : List (Nat ⊕ Bool)} {C : String} {T : u_T} (hs : shp i = objS ci fl) (hc : vwCl[ci]? = some (C, T, N)) : ∃ cell : Cell, H[a i]? = some cell ∧ cell.vm.isStatics = false ∧ s.vm.findClass C = some cell.cls := va_recv X.2.1 hG.1 hc (at_obj hs)
theorem mw_pre (X : XU dC dI cy a p s m c args meth cc nL own ret) (hG : GU dC dI cy a H0 M H locs) {vs : List Value} : ∀ U : State, U.heap = H → s.WarmedH U.vm → PU dC dI cy a vs M vs.toArray U := fun U hU hW => ⟨rfl, by rw [hU]; exact hG.1, va_K.moved hW.alike X.2.1⟩
theorem mw_callVi (X : XU dC dI cy a p s m c args meth cc nL own ret) (hG : GU dC dI cy a H0 M H locs) {y : MethodName} {bytes : ByteArray} {maxL n index i ci N : Nat} {ret1 : Option FieldType} {fl : List (Nat ⊕ Bool)} {C : String} {T : u_T} {rm : Room} {As st0 : List Value} {r : Int32} {M1 : Mem} (hs : shp i = objS ci fl) (hc : vwCl[ci]? = some (C, T, N)) (hM : Met l y (wsU y bytes maxL ret1) rm (PU dC dI cy a (.ref (a i) :: As) M) (QUi dC dI cy a r M1) 0 0 (AU a)) (cw : CallW R s args own C index y bytes maxL ret1 (wsU y bytes maxL ret1) rm 0 0 n) (hn : As.length = n) (hsz : ls.size = nL) (hst : st0 = As.reverse ++ .ref (a i) :: rest) (hW : (rest.map fun v => v.category).sum ≤ 8) (hdg : decode cc pc = .ok (.invokevirtual index, 3))
    (kk : ∀ (H1 : Heap) (locs1 : List Loc), GU dC dI cy a H0 M1 H1 locs1 → W p l e R s m args below meth c H1 locs1 0 0 Q (F0 m (pc + 3) ls (.int r :: rest))) : W p l e R s m args below meth c H locs 0 0 Q (F0 m pc ls st0) := by
  refine va_calli (va_runV (As := As) (rest := rest) (g := F0 m pc ls st0) X.1 hM cw ⟨PU_blind, mw_recv X hG hs hc, mw_pre X hG⟩ rfl hn hsz hst (lv_room hW) hdg ⟨Nat.zero_le _, Nat.zero_le _⟩) hG.2 (fun q _ h => h) (fun q h => h) (fun r1 u t H1 locs1 ht hvm hw hB hz1 hk1 hS => ?_)
  obtain ⟨rfl, rfl⟩ := hw
  exact kk H1 locs1 ⟨by rw [← ht]; exact hB, hS⟩
theorem mw_callVv (X : XU dC dI cy a p s m c args meth cc nL own ret) (hG : GU dC dI cy a H0 M H locs) {y : MethodName} {bytes : ByteArray} {maxL n index i ci N : Nat} {ret1 : Option FieldType} {fl : List (Nat ⊕ Bool)} {C : String} {T : u_T} {rm : Room} {As st0 : List Value} {M1 : Mem} (hs : shp i = objS ci fl) (hc : vwCl[ci]? = some (C, T, N)) (hM : Met l y (wsU y bytes maxL ret1) rm (PU dC dI cy a (.ref (a i) :: As) M) (QUv dC dI cy a M1) 0 0 (AU a)) (cw : CallW R s args own C index y bytes maxL ret1 (wsU y bytes maxL ret1) rm 0 0 n) (hn : As.length = n) (hsz : ls.size = nL) (hst : st0 = As.reverse ++ .ref (a i) :: rest) (hW : (rest.map fun v => v.category).sum ≤ 8) (hdg : decode cc pc = .ok (.invokevirtual index, 3))
    (kk : ∀ (H1 : Heap) (locs1 : List Loc), GU dC dI cy a H0 M1 H1 locs1 → W p l e R s m args below meth c H1 locs1 0 0 Q (F0 m (pc + 3) ls rest)) : W p l e R s m args below meth c H locs 0 0 Q (F0 m pc ls st0) := by
  refine va_callv (va_runV (As := As) (rest := rest) (g := F0 m pc ls st0) X.1 hM cw ⟨PU_blind, mw_recv X hG hs hc, mw_pre X hG⟩ rfl hn hsz hst (lv_room hW) hdg ⟨Nat.zero_le _, Nat.zero_le _⟩) hG.2 (fun q _ h => h) (fun q h => h) (fun u t H1 locs1 ht hvm hw hB hz1 hk1 hS => ?_)
  subst hw
  exact kk H1 locs1 ⟨by rw [← ht]; exact hB, hS⟩
theorem mw_callSi (X : XU dC dI cy a p s m c args meth cc nL own ret) (hG : GU dC dI cy a H0 M H locs) {y : MethodName} {bytes : ByteArray} {maxL n index : Nat} {ret1 : Option FieldType} {rm : Room} {As st0 : List Value} {r : Int32} {M1 : Mem} (hM : Met l y (wsU y bytes maxL ret1) rm (PU dC dI cy a As M) (QUi dC dI cy a r M1) 0 0 (AU a)) (cw : CallB R s args own index y bytes maxL ret1 (wsU y bytes maxL ret1) rm 0 0 n ∧ (Cond.static y).before args s = true) (hn : As.length = n) (hsz : ls.size = nL) (hst : st0 = As.reverse ++ rest) (hW : (rest.map fun v => v.category).sum ≤ 8) (hdg : decode cc pc = .ok (.invokestatic index, 3))
    (kk : ∀ (H1 : Heap) (locs1 : List Loc), GU dC dI cy a H0 M1 H1 locs1 → W p l e R s m args below meth c H1 locs1 0 0 Q (F0 m (pc + 3) ls (.int r :: rest))) : W p l e R s m args below meth c H locs 0 0 Q (F0 m pc ls st0) := by
  refine va_calli (va_runS (As := As) (rest := rest) (g := F0 m pc ls st0) X.1 hM cw ⟨PU_blind, mw_pre X hG⟩ rfl hn hsz hst (lv_room hW) hdg ⟨Nat.zero_le _, Nat.zero_le _⟩) hG.2 (fun q _ h => h) (fun q h => h) (fun r1 u t H1 locs1 ht hvm hw hB hz1 hk1 hS => ?_)
  obtain ⟨rfl, rfl⟩ := hw
  exact kk H1 locs1 ⟨by rw [← ht]; exact hB, hS⟩
theorem mw_callSl (X : XU dC dI cy a p s m c args meth cc nL own ret) (hG : GU dC dI cy a H0 M H locs) {y : MethodName} {bytes : ByteArray} {maxL n index : Nat} {ret1 : Option FieldType} {rm : Room} {As st0 : List Value} {r : Int64} {M1 : Mem} (hM : Met l y (wsU y bytes maxL ret1) rm (PU dC dI cy a As M) (QUl dC dI cy a r M1) 0 0 (AU a)) (cw : CallB R s args own index y bytes maxL ret1 (wsU y bytes maxL ret1) rm 0 0 n ∧ (Cond.static y).before args s = true) (hn : As.length = n) (hsz : ls.size = nL) (hst : st0 = As.reverse ++ rest) (hW : (rest.map fun v => v.category).sum ≤ 8) (hdg : decode cc pc = .ok (.invokestatic index, 3))
    (kk : ∀ (H1 : Heap) (locs1 : List Loc), GU dC dI cy a H0 M1 H1 locs1 → W p l e R s m args below meth c H1 locs1 0 0 Q (F0 m (pc + 3) ls (.long r :: rest))) : W p l e R s m args below meth c H locs 0 0 Q (F0 m pc ls st0) := by
  refine va_calll (va_runS (As := As) (rest := rest) (g := F0 m pc ls st0) X.1 hM cw ⟨PU_blind, mw_pre X hG⟩ rfl hn hsz hst (lv_room hW) hdg ⟨Nat.zero_le _, Nat.zero_le _⟩) hG.2 (fun q _ h => h) (fun q h => h) (fun r1 u t H1 locs1 ht hvm hw hB hz1 hk1 hS => ?_)
  obtain ⟨rfl, rfl⟩ := hw
  exact kk H1 locs1 ⟨by rw [← ht]; exact hB, hS⟩
theorem mw_cwV (X : XU dC dI cy a p s m c args meth cc nL own ret) {y : MethodName} {bytes : ByteArray} {maxL index : Nat} {ret1 : Option FieldType} {C : String} {rm : Room} (n : Nat) (hg : GoodIn wsL_law (wsV own index C y (wsU y bytes maxL ret1))) (hd : y.cls = C ∧ y.cls ≠ "java/lang/invoke/MethodHandle" ∧ y.cls ≠ "java/lang/invoke/VarHandle" ∧ (parseMethodDescriptor y.desc).map (fun d => d.parameters.length) = some n) (h0 : rm.cells = 0 ∧ rm.slots = 0) (hR : rm.frames + 1 ≤ R.frames ∧ 8 + (maxL + 11) + rm.locals ≤ R.locals) : CallW R s args own C index y bytes maxL ret1 (wsU y bytes maxL ret1) rm 0 0 n := cwV n X.1.2.2.2.2 hg rfl h0.1 h0.2 hd hR
theorem mw_cwS (X : XU dC dI cy a p s m c args meth cc nL own ret) {y : MethodName} {bytes : ByteArray} {maxL index : Nat} {ret1 : Option FieldType} {rm : Room} (n : Nat) (hg : GoodIn wsL_law (wsS own index y (wsU y bytes maxL ret1))) (hd : y.cls = own ∧ y.cls ≠ "java/lang/invoke/MethodHandle" ∧ y.cls ≠ "java/lang/invoke/VarHandle" ∧ (parseMethodDescriptor y.desc).map (fun d => d.parameters.length) = some n) (h0 : rm.cells = 0 ∧ rm.slots = 0) (hR : rm.frames + 1 ≤ R.frames ∧ 8 + (maxL + 11) + rm.locals ≤ R.locals) : CallB R s args own index y bytes maxL ret1 (wsU y bytes maxL ret1) rm 0 0 n ∧ (Cond.static y).before args s = true := cwS n X.1.2.2.2.2 hg rfl h0.1 h0.2 hd hR
theorem mw_iret (X : XU dC dI cy a p s m c args meth cc nL own (some .int)) (hG : GU dC dI cy a s.heap M H locs) {v : Int32} (hdg : decode cc pc = .ok (.ireturn, 1)) : W p l e R s m args below meth c H locs 0 0 (MQ below (QUi dC dI cy a v M) args s 0 0 (AU a)) (F0 m pc ls [.int v]) :=
  W.iret X.1.1 X.1.2.1 X.2.2.2.1 (fun t ht hW => ⟨⟨v, M, rfl, ⟨rfl, rfl⟩, by show va_P _ _ _ _; rw [ht]; exact hG.1⟩, hG.2.F ht⟩) hG.2.2.2 hdg X.2.2.2.2
theorem mw_zret (X : XU dC dI cy a p s m c args meth cc nL own (some .boolean)) (hG : GU dC dI cy a s.heap M H locs) {v : Int32} (hn : narrow .boolean (.int v) = .int v) (hdg : decode cc pc = .ok (.ireturn, 1)) : W p l e R s m args below meth c H locs 0 0 (MQ below (QUi dC dI cy a v M) args s 0 0 (AU a)) (F0 m pc ls [.int v]) :=
  W.zret X.1.1 X.1.2.1 X.2.2.2.1 hn (fun t ht hW => ⟨⟨v, M, rfl, ⟨rfl, rfl⟩, by show va_P _ _ _ _; rw [ht]; exact hG.1⟩, hG.2.F ht⟩) hG.2.2.2 hdg X.2.2.2.2
theorem mw_lret (X : XU dC dI cy a p s m c args meth cc nL own (some .long)) (hG : GU dC dI cy a s.heap M H locs) {v : Int64} (hdg : decode cc pc = .ok (.lreturn, 1)) : W p l e R s m args below meth c H locs 0 0 (MQ below (QUl dC dI cy a v M) args s 0 0 (AU a)) (F0 m pc ls [.long v]) :=
  W.lret X.1.1 X.1.2.1 X.2.2.2.1 (fun t ht hW => ⟨⟨v, M, rfl, ⟨rfl, rfl⟩, by show va_P _ _ _ _; rw [ht]; exact hG.1⟩, hG.2.F ht⟩) hG.2.2.2 hdg X.2.2.2.2
theorem mw_vret (X : XU dC dI cy a p s m c args meth cc nL own none) (hG : GU dC dI cy a s.heap M H locs) (hdg : decode cc pc = .ok (.return_, 1)) : W p l e R s m args below meth c H locs 0 0 (MQ below (QUv dC dI cy a M) args s 0 0 (AU a)) (F0 m pc ls []) :=
  W.vret X.1.1 X.1.2.1 X.2.2.2.1 (fun t ht hW => ⟨⟨M, rfl, rfl, by show va_P _ _ _ _; rw [ht]; exact hG.1⟩, hG.2.F ht⟩) hG.2.2.2 hdg X.2.2.2.2
end MW
theorem mw_met {l : Launch} {dC : Nat → ClassId} {dI : Nat → Nat → Nat} {cy : Nat → ClassId} {a : Nat → Nat} {y : MethodName} {cc : ByteArray} {nL : Nat} {ret : Option FieldType} {rm : Room} {vs : List Value} {M : Mem} {Qc : Array Value → State → Outcome → State → Prop} (hy : plainName y.cls = true) (ha : injU a) (hle : (lg_sl vs).length ≤ nL)
    (body : ∀ (p : Program) (e : Env) (s : State) (m : MethodId) (below : List Frame) (meth : Method) (c : Code) (ls : Array Slot), XU dC dI cy a p s m c vs.toArray meth cc nL y.cls ret → GU dC dI cy a s.heap M s.heap [] → lv_has ls nL (lv_args 0 vs) → W p l e rm s m vs.toArray below meth c s.heap [] 0 0 (MQ below Qc vs.toArray s 0 0 (AU a)) (F0 m 0 ls [])) : Met l y (wsU y cc nL ret) rm (PU dC dI cy a vs M) Qc 0 0 (AU a) := by
  refine Met.ofW (cc := cc) (maxL := nL) (ret := ret) hy rfl ?_
  intro p e s m args below meth c s₁ B hml hv
  obtain ⟨rfl, hP, hK⟩ := hv
  have hts := atoms_spec (ws := wsU y cc nL ret) B.pre
  rw [lg_entry_eq]
  exact body p e s m below meth c _ ⟨⟨B.exec, B.bytes, hml, findClass_of_methodNamed B.named, fun w hw => hts w (List.mem_cons_of_mem _ hw)⟩, hK, ha, B.returns, B.notSynchronized⟩ ⟨hP, va_S.rf⟩ (lv_entry vs hle)
