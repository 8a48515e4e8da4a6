section
-- ===== PART A: goes FIRST, ahead of the names: the tables' words, and 'selects' of the private methods out of them =====
/-- a private method of a class that the tables say can be made, by its rows of tables_1 -/
def lw_okq (q : MethodName × Nat) : Prop := (q.1.cls ≠ "java/lang/invoke/MethodHandle" ∧ q.1.cls ≠ "java/lang/invoke/VarHandle") ∧ Cond.instantiable q.1.cls q.2 ∈ tables_1 ∧ Cond.privateMethod q.1 ∈ tables_1 ∧ Cond.instanceMethod q.1 ∈ tables_1
theorem lw_p0 : lw_okq (⟨"SafeParts", "areNotTwoParts", "(II)Z"⟩, 6) := ⟨⟨by decide +kernel, by decide +kernel⟩, List.mem_of_getElem? (i := 10) (by decide +kernel), List.mem_of_getElem? (i := 211) (by decide +kernel), List.mem_of_getElem? (i := 212) (by decide +kernel)⟩
theorem lw_p1 : lw_okq (⟨"SafeParts", "isNoPart", "(I)Z"⟩, 6) := ⟨⟨by decide +kernel, by decide +kernel⟩, List.mem_of_getElem? (i := 10) (by decide +kernel), List.mem_of_getElem? (i := 215) (by decide +kernel), List.mem_of_getElem? (i := 216) (by decide +kernel)⟩
theorem lw_p2 : lw_okq (⟨"SafeParts", "refusalOfEvent", "(III)I"⟩, 6) := ⟨⟨by decide +kernel, by decide +kernel⟩, List.mem_of_getElem? (i := 10) (by decide +kernel), List.mem_of_getElem? (i := 238) (by decide +kernel), List.mem_of_getElem? (i := 239) (by decide +kernel)⟩
theorem lw_p3 : lw_okq (⟨"SafeParts$Waiting", "isBehind", "(III)Z"⟩, 4) := ⟨⟨by decide +kernel, by decide +kernel⟩, List.mem_of_getElem? (i := 73) (by decide +kernel), List.mem_of_getElem? (i := 258) (by decide +kernel), List.mem_of_getElem? (i := 259) (by decide +kernel)⟩
theorem lw_p4 : lw_okq (⟨"SafeParts", "nothingIsRun", "()Z"⟩, 6) := ⟨⟨by decide +kernel, by decide +kernel⟩, List.mem_of_getElem? (i := 10) (by decide +kernel), List.mem_of_getElem? (i := 282) (by decide +kernel), List.mem_of_getElem? (i := 283) (by decide +kernel)⟩
theorem lw_p5 : lw_okq (⟨"SafeParts$Channels", "reachedWithoutPromise", "(II)I"⟩, 8) := ⟨⟨by decide +kernel, by decide +kernel⟩, List.mem_of_getElem? (i := 24) (by decide +kernel), List.mem_of_getElem? (i := 290) (by decide +kernel), List.mem_of_getElem? (i := 291) (by decide +kernel)⟩
theorem lw_p6 : lw_okq (⟨"SafeParts", "isStillAfterRound", "()Z"⟩, 6) := ⟨⟨by decide +kernel, by decide +kernel⟩, List.mem_of_getElem? (i := 10) (by decide +kernel), List.mem_of_getElem? (i := 298) (by decide +kernel), List.mem_of_getElem? (i := 299) (by decide +kernel)⟩
theorem lw_p7 : lw_okq (⟨"SafeParts", "workAndWriteDown", "(I)V"⟩, 6) := ⟨⟨by decide +kernel, by decide +kernel⟩, List.mem_of_getElem? (i := 10) (by decide +kernel), List.mem_of_getElem? (i := 320) (by decide +kernel), List.mem_of_getElem? (i := 321) (by decide +kernel)⟩
theorem lw_p8 : lw_okq (⟨"SafeParts$World", "sendLetter", "(III)V"⟩, 12) := ⟨⟨by decide +kernel, by decide +kernel⟩, List.mem_of_getElem? (i := 18) (by decide +kernel), List.mem_of_getElem? (i := 346) (by decide +kernel), List.mem_of_getElem? (i := 347) (by decide +kernel)⟩
theorem lw_p9 : lw_okq (⟨"SafeParts$World", "emptyMayGo", "(I)Z"⟩, 12) := ⟨⟨by decide +kernel, by decide +kernel⟩, List.mem_of_getElem? (i := 18) (by decide +kernel), List.mem_of_getElem? (i := 368) (by decide +kernel), List.mem_of_getElem? (i := 369) (by decide +kernel)⟩
theorem lw_p10 : lw_okq (⟨"SafeParts", "letEarliestGo", "()I"⟩, 6) := ⟨⟨by decide +kernel, by decide +kernel⟩, List.mem_of_getElem? (i := 10) (by decide +kernel), List.mem_of_getElem? (i := 385) (by decide +kernel), List.mem_of_getElem? (i := 386) (by decide +kernel)⟩
theorem lw_p11 : lw_okq (⟨"SafeParts", "leastPromisesRound", "(I)I"⟩, 6) := ⟨⟨by decide +kernel, by decide +kernel⟩, List.mem_of_getElem? (i := 10) (by decide +kernel), List.mem_of_getElem? (i := 437) (by decide +kernel), List.mem_of_getElem? (i := 438) (by decide +kernel)⟩
theorem lw_p12 : lw_okq (⟨"SafePartsModel", "isPart", "(I)Z"⟩, 6) := ⟨⟨by decide +kernel, by decide +kernel⟩, List.mem_of_getElem? (i := 476) (by decide +kernel), List.mem_of_getElem? (i := 514) (by decide +kernel), List.mem_of_getElem? (i := 515) (by decide +kernel)⟩
theorem lw_p13 : lw_okq (⟨"SafePartsModel", "wayOf", "(II)I"⟩, 6) := ⟨⟨by decide +kernel, by decide +kernel⟩, List.mem_of_getElem? (i := 476) (by decide +kernel), List.mem_of_getElem? (i := 520) (by decide +kernel), List.mem_of_getElem? (i := 521) (by decide +kernel)⟩
theorem lw_p14 : lw_okq (⟨"SafePartsModel", "isPromised", "(II)Z"⟩, 6) := ⟨⟨by decide +kernel, by decide +kernel⟩, List.mem_of_getElem? (i := 476) (by decide +kernel), List.mem_of_getElem? (i := 534) (by decide +kernel), List.mem_of_getElem? (i := 535) (by decide +kernel)⟩
theorem lw_p15 : lw_okq (⟨"SafePartsModel", "comes", "(IIIII)V"⟩, 6) := ⟨⟨by decide +kernel, by decide +kernel⟩, List.mem_of_getElem? (i := 476) (by decide +kernel), List.mem_of_getElem? (i := 538) (by decide +kernel), List.mem_of_getElem? (i := 539) (by decide +kernel)⟩
def lw_privs_1 : List (MethodName × Nat) := [(⟨"SafeParts", "areNotTwoParts", "(II)Z"⟩, 6), (⟨"SafeParts", "isNoPart", "(I)Z"⟩, 6), (⟨"SafeParts", "refusalOfEvent", "(III)I"⟩, 6), (⟨"SafeParts$Waiting", "isBehind", "(III)Z"⟩, 4), (⟨"SafeParts", "nothingIsRun", "()Z"⟩, 6), (⟨"SafeParts$Channels", "reachedWithoutPromise", "(II)I"⟩, 8), (⟨"SafeParts", "isStillAfterRound", "()Z"⟩, 6), (⟨"SafeParts", "workAndWriteDown", "(I)V"⟩, 6), (⟨"SafeParts$World", "sendLetter", "(III)V"⟩, 12), (⟨"SafeParts$World", "emptyMayGo", "(I)Z"⟩, 12), (⟨"SafeParts", "letEarliestGo", "()I"⟩, 6), (⟨"SafeParts", "leastPromisesRound", "(I)I"⟩, 6), (⟨"SafePartsModel", "isPart", "(I)Z"⟩, 6), (⟨"SafePartsModel", "wayOf", "(II)I"⟩, 6), (⟨"SafePartsModel", "isPromised", "(II)Z"⟩, 6), (⟨"SafePartsModel", "comes", "(IIIII)V"⟩, 6)]
theorem lw_r1 : ∀ q ∈ lw_privs_1, lw_okq q := List.forall_mem_cons.mpr ⟨lw_p0, List.forall_mem_cons.mpr ⟨lw_p1, List.forall_mem_cons.mpr ⟨lw_p2, List.forall_mem_cons.mpr ⟨lw_p3, List.forall_mem_cons.mpr ⟨lw_p4, List.forall_mem_cons.mpr ⟨lw_p5, List.forall_mem_cons.mpr ⟨lw_p6, List.forall_mem_cons.mpr ⟨lw_p7, List.forall_mem_cons.mpr ⟨lw_p8, List.forall_mem_cons.mpr ⟨lw_p9, List.forall_mem_cons.mpr ⟨lw_p10, List.forall_mem_cons.mpr ⟨lw_p11, List.forall_mem_cons.mpr ⟨lw_p12, List.forall_mem_cons.mpr ⟨lw_p13, List.forall_mem_cons.mpr ⟨lw_p14, List.forall_mem_cons.mpr ⟨lw_p15, fun _ h => absurd h List.not_mem_nil⟩⟩⟩⟩⟩⟩⟩⟩⟩⟩⟩⟩⟩⟩⟩⟩
theorem lw_p16 : lw_okq (⟨"SafePartsModel", "waitFor", "(II)I"⟩, 6) := ⟨⟨by decide +kernel, by decide +kernel⟩, List.mem_of_getElem? (i := 476) (by decide +kernel), List.mem_of_getElem? (i := 542) (by decide +kernel), List.mem_of_getElem? (i := 543) (by decide +kernel)⟩
theorem lw_p17 : lw_okq (⟨"SafePartsModel", "draw", "(I)I"⟩, 6) := ⟨⟨by decide +kernel, by decide +kernel⟩, List.mem_of_getElem? (i := 476) (by decide +kernel), List.mem_of_getElem? (i := 557) (by decide +kernel), List.mem_of_getElem? (i := 558) (by decide +kernel)⟩
theorem lw_p18 : lw_okq (⟨"SafePartsModel", "canRun", "()Z"⟩, 6) := ⟨⟨by decide +kernel, by decide +kernel⟩, List.mem_of_getElem? (i := 476) (by decide +kernel), List.mem_of_getElem? (i := 569) (by decide +kernel), List.mem_of_getElem? (i := 570) (by decide +kernel)⟩
theorem lw_p19 : lw_okq (⟨"SafePartsModel", "isRing", "()Z"⟩, 6) := ⟨⟨by decide +kernel, by decide +kernel⟩, List.mem_of_getElem? (i := 476) (by decide +kernel), List.mem_of_getElem? (i := 573) (by decide +kernel), List.mem_of_getElem? (i := 574) (by decide +kernel)⟩
theorem lw_p20 : lw_okq (⟨"SafePartsModel", "ringOf", "(I)I"⟩, 6) := ⟨⟨by decide +kernel, by decide +kernel⟩, List.mem_of_getElem? (i := 476) (by decide +kernel), List.mem_of_getElem? (i := 577) (by decide +kernel), List.mem_of_getElem? (i := 578) (by decide +kernel)⟩
theorem lw_p21 : lw_okq (⟨"SafePartsModel", "rounds", "()Z"⟩, 6) := ⟨⟨by decide +kernel, by decide +kernel⟩, List.mem_of_getElem? (i := 476) (by decide +kernel), List.mem_of_getElem? (i := 582) (by decide +kernel), List.mem_of_getElem? (i := 583) (by decide +kernel)⟩
theorem lw_p22 : lw_okq (⟨"SafePartsModel", "may", "(I)Z"⟩, 6) := ⟨⟨by decide +kernel, by decide +kernel⟩, List.mem_of_getElem? (i := 476) (by decide +kernel), List.mem_of_getElem? (i := 586) (by decide +kernel), List.mem_of_getElem? (i := 587) (by decide +kernel)⟩
theorem lw_p23 : lw_okq (⟨"SafePartsModel", "firstOf", "(II)I"⟩, 6) := ⟨⟨by decide +kernel, by decide +kernel⟩, List.mem_of_getElem? (i := 476) (by decide +kernel), List.mem_of_getElem? (i := 590) (by decide +kernel), List.mem_of_getElem? (i := 591) (by decide +kernel)⟩
theorem lw_p24 : lw_okq (⟨"SafePartsModel", "isAhead", "(II)Z"⟩, 6) := ⟨⟨by decide +kernel, by decide +kernel⟩, List.mem_of_getElem? (i := 476) (by decide +kernel), List.mem_of_getElem? (i := 594) (by decide +kernel), List.mem_of_getElem? (i := 595) (by decide +kernel)⟩
theorem lw_p25 : lw_okq (⟨"SafePartsModel", "firstTime", "(II)I"⟩, 6) := ⟨⟨by decide +kernel, by decide +kernel⟩, List.mem_of_getElem? (i := 476) (by decide +kernel), List.mem_of_getElem? (i := 598) (by decide +kernel), List.mem_of_getElem? (i := 599) (by decide +kernel)⟩
theorem lw_p26 : lw_okq (⟨"SafePartsModel", "safe", "(I)I"⟩, 6) := ⟨⟨by decide +kernel, by decide +kernel⟩, List.mem_of_getElem? (i := 476) (by decide +kernel), List.mem_of_getElem? (i := 602) (by decide +kernel), List.mem_of_getElem? (i := 603) (by decide +kernel)⟩
theorem lw_p27 : lw_okq (⟨"SafePartsModel", "leastTo", "(I)I"⟩, 6) := ⟨⟨by decide +kernel, by decide +kernel⟩, List.mem_of_getElem? (i := 476) (by decide +kernel), List.mem_of_getElem? (i := 606) (by decide +kernel), List.mem_of_getElem? (i := 607) (by decide +kernel)⟩
theorem lw_p28 : lw_okq (⟨"SafePartsModel", "works", "(II)V"⟩, 6) := ⟨⟨by decide +kernel, by decide +kernel⟩, List.mem_of_getElem? (i := 476) (by decide +kernel), List.mem_of_getElem? (i := 610) (by decide +kernel), List.mem_of_getElem? (i := 611) (by decide +kernel)⟩
theorem lw_p29 : lw_okq (⟨"SafePartsModel", "outOf", "(II)I"⟩, 6) := ⟨⟨by decide +kernel, by decide +kernel⟩, List.mem_of_getElem? (i := 476) (by decide +kernel), List.mem_of_getElem? (i := 615) (by decide +kernel), List.mem_of_getElem? (i := 616) (by decide +kernel)⟩
theorem lw_p30 : lw_okq (⟨"SafePartsModel", "outAt", "(III)I"⟩, 6) := ⟨⟨by decide +kernel, by decide +kernel⟩, List.mem_of_getElem? (i := 476) (by decide +kernel), List.mem_of_getElem? (i := 619) (by decide +kernel), List.mem_of_getElem? (i := 620) (by decide +kernel)⟩
theorem lw_p31 : lw_okq (⟨"SafePartsModel", "empties", "(I)I"⟩, 6) := ⟨⟨by decide +kernel, by decide +kernel⟩, List.mem_of_getElem? (i := 476) (by decide +kernel), List.mem_of_getElem? (i := 623) (by decide +kernel), List.mem_of_getElem? (i := 624) (by decide +kernel)⟩
def lw_privs_2 : List (MethodName × Nat) := [(⟨"SafePartsModel", "waitFor", "(II)I"⟩, 6), (⟨"SafePartsModel", "draw", "(I)I"⟩, 6), (⟨"SafePartsModel", "canRun", "()Z"⟩, 6), (⟨"SafePartsModel", "isRing", "()Z"⟩, 6), (⟨"SafePartsModel", "ringOf", "(I)I"⟩, 6), (⟨"SafePartsModel", "rounds", "()Z"⟩, 6), (⟨"SafePartsModel", "may", "(I)Z"⟩, 6), (⟨"SafePartsModel", "firstOf", "(II)I"⟩, 6), (⟨"SafePartsModel", "isAhead", "(II)Z"⟩, 6), (⟨"SafePartsModel", "firstTime", "(II)I"⟩, 6), (⟨"SafePartsModel", "safe", "(I)I"⟩, 6), (⟨"SafePartsModel", "leastTo", "(I)I"⟩, 6), (⟨"SafePartsModel", "works", "(II)V"⟩, 6), (⟨"SafePartsModel", "outOf", "(II)I"⟩, 6), (⟨"SafePartsModel", "outAt", "(III)I"⟩, 6), (⟨"SafePartsModel", "empties", "(I)I"⟩, 6)]
theorem lw_r2 : ∀ q ∈ lw_privs_2, lw_okq q := List.forall_mem_cons.mpr ⟨lw_p16, List.forall_mem_cons.mpr ⟨lw_p17, List.forall_mem_cons.mpr ⟨lw_p18, List.forall_mem_cons.mpr ⟨lw_p19, List.forall_mem_cons.mpr ⟨lw_p20, List.forall_mem_cons.mpr ⟨lw_p21, List.forall_mem_cons.mpr ⟨lw_p22, List.forall_mem_cons.mpr ⟨lw_p23, List.forall_mem_cons.mpr ⟨lw_p24, List.forall_mem_cons.mpr ⟨lw_p25, List.forall_mem_cons.mpr ⟨lw_p26, List.forall_mem_cons.mpr ⟨lw_p27, List.forall_mem_cons.mpr ⟨lw_p28, List.forall_mem_cons.mpr ⟨lw_p29, List.forall_mem_cons.mpr ⟨lw_p30, List.forall_mem_cons.mpr ⟨lw_p31, fun _ h => absurd h List.not_mem_nil⟩⟩⟩⟩⟩⟩⟩⟩⟩⟩⟩⟩⟩⟩⟩⟩
theorem lw_p32 : lw_okq (⟨"SafePartsModel", "allMay", "()I"⟩, 6) := ⟨⟨by decide +kernel, by decide +kernel⟩, List.mem_of_getElem? (i := 476) (by decide +kernel), List.mem_of_getElem? (i := 631) (by decide +kernel), List.mem_of_getElem? (i := 632) (by decide +kernel)⟩
theorem lw_p33 : lw_okq (⟨"SafePartsModel", "lets", "()I"⟩, 6) := ⟨⟨by decide +kernel, by decide +kernel⟩, List.mem_of_getElem? (i := 476) (by decide +kernel), List.mem_of_getElem? (i := 635) (by decide +kernel), List.mem_of_getElem? (i := 636) (by decide +kernel)⟩
theorem lw_p34 : lw_okq (⟨"SafePartsModel", "leastTime", "()I"⟩, 6) := ⟨⟨by decide +kernel, by decide +kernel⟩, List.mem_of_getElem? (i := 476) (by decide +kernel), List.mem_of_getElem? (i := 639) (by decide +kernel), List.mem_of_getElem? (i := 640) (by decide +kernel)⟩
theorem lw_p35 : lw_okq (⟨"SafePartsModel", "firstValue", "(I)I"⟩, 6) := ⟨⟨by decide +kernel, by decide +kernel⟩, List.mem_of_getElem? (i := 476) (by decide +kernel), List.mem_of_getElem? (i := 655) (by decide +kernel), List.mem_of_getElem? (i := 656) (by decide +kernel)⟩
theorem lw_p36 : lw_okq (⟨"SafePartsModel", "waitsBy", "(I)I"⟩, 6) := ⟨⟨by decide +kernel, by decide +kernel⟩, List.mem_of_getElem? (i := 476) (by decide +kernel), List.mem_of_getElem? (i := 659) (by decide +kernel), List.mem_of_getElem? (i := 660) (by decide +kernel)⟩
theorem lw_p37 : lw_okq (⟨"SafePartsModel", "waysTo", "(I)I"⟩, 6) := ⟨⟨by decide +kernel, by decide +kernel⟩, List.mem_of_getElem? (i := 476) (by decide +kernel), List.mem_of_getElem? (i := 663) (by decide +kernel), List.mem_of_getElem? (i := 664) (by decide +kernel)⟩
theorem lw_p38 : lw_okq (⟨"SafePartsModel", "isChannel", "(I)Z"⟩, 6) := ⟨⟨by decide +kernel, by decide +kernel⟩, List.mem_of_getElem? (i := 476) (by decide +kernel), List.mem_of_getElem? (i := 671) (by decide +kernel), List.mem_of_getElem? (i := 672) (by decide +kernel)⟩
theorem lw_p39 : lw_okq (⟨"SafePartsModel", "copy", "(II)V"⟩, 6) := ⟨⟨by decide +kernel, by decide +kernel⟩, List.mem_of_getElem? (i := 476) (by decide +kernel), List.mem_of_getElem? (i := 699) (by decide +kernel), List.mem_of_getElem? (i := 700) (by decide +kernel)⟩
def lw_privs_3 : List (MethodName × Nat) := [(⟨"SafePartsModel", "allMay", "()I"⟩, 6), (⟨"SafePartsModel", "lets", "()I"⟩, 6), (⟨"SafePartsModel", "leastTime", "()I"⟩, 6), (⟨"SafePartsModel", "firstValue", "(I)I"⟩, 6), (⟨"SafePartsModel", "waitsBy", "(I)I"⟩, 6), (⟨"SafePartsModel", "waysTo", "(I)I"⟩, 6), (⟨"SafePartsModel", "isChannel", "(I)Z"⟩, 6), (⟨"SafePartsModel", "copy", "(II)V"⟩, 6)]
theorem lw_r3 : ∀ q ∈ lw_privs_3, lw_okq q := List.forall_mem_cons.mpr ⟨lw_p32, List.forall_mem_cons.mpr ⟨lw_p33, List.forall_mem_cons.mpr ⟨lw_p34, List.forall_mem_cons.mpr ⟨lw_p35, List.forall_mem_cons.mpr ⟨lw_p36, List.forall_mem_cons.mpr ⟨lw_p37, List.forall_mem_cons.mpr ⟨lw_p38, List.forall_mem_cons.mpr ⟨lw_p39, fun _ h => absurd h List.not_mem_nil⟩⟩⟩⟩⟩⟩⟩⟩
def lw_privs : List (MethodName × Nat) := lw_privs_1 ++ (lw_privs_2 ++ (lw_privs_3))
def lw_tbl : List Cond := k2_sels lw_privs ++ tables_1
theorem lw_privs_ok : ∀ q ∈ lw_privs, lw_okq q := by
  show ∀ q ∈ lw_privs_1 ++ (lw_privs_2 ++ (lw_privs_3)), lw_okq q
  exact List.forall_mem_append.mpr ⟨lw_r1, List.forall_mem_append.mpr ⟨lw_r2, lw_r3⟩⟩
end
section
/-! ===== BEGIN words of one list among another's, by their places ===== -/
theorem goodIn_r {big : List Cond} (ws : List Cond) (ps : List Nat) (hp : ws = ps.filterMap (fun i => big[i]?)) (h : ws.all goodWord = true) : GoodIn big ws := by
  intro w hw
  have h1 := List.all_eq_true.mp h w hw
  rw [hp] at hw
  obtain ⟨i, -, hi⟩ := List.mem_filterMap.mp hw
  have hm : w ∈ big := by first | exact List.mem_of_getElem? hi | exact List.getElem?_mem hi
  exact ⟨hm, good_of_word h1⟩
theorem goodIn_app {big a b : List Cond} (ha : GoodIn big a) (hb : GoodIn big b) : GoodIn big (a ++ b) := fun w h => (List.mem_append.mp h).elim (ha w) (hb w)
theorem goodIn_ca {big a b : List Cond} {c : Cond} (ha : GoodIn big (c :: a)) (hb : GoodIn big b) : GoodIn big (c :: (a ++ b)) := fun w h => (List.mem_cons.mp h).elim (fun e => ha w (List.mem_cons.mpr (Or.inl e))) (fun h => (List.mem_append.mp h).elim (fun h => ha w (List.mem_cons.mpr (Or.inr h))) (hb w))
theorem goodIn_sub {big ws : List Cond} (hm : ∀ w ∈ ws, w ∈ big) (h : ws.all goodWord = true) : GoodIn big ws := fun w hw => ⟨hm w hw, good_of_word (List.all_eq_true.mp h w hw)⟩
/-! ===== END ===== -/

/-! ===== BEGIN printed: names, fields, word lists, decode rows ===== -/
def RX0 : String := "SafeParts$Channels"
def TX0 : u_T := fun k => match k with
  | 0 => ("SafeParts$Channels", "from", "[I", true)
  | 1 => ("SafeParts$Channels", "to", "[I", true)
  | 2 => ("SafeParts$Channels", "promise", "[I", true)
  | 3 => ("SafeParts$Channels", "delay", "[I", true)
  | 4 => ("SafeParts$Channels", "clock", "[I", true)
  | 5 => ("SafeParts$Channels", "letters", "[I", true)
  | 6 => ("SafeParts$Channels", "empties", "[I", true)
  | _ => ("SafeParts$Channels", "size", "I", false)
def tyX0 : Nat → FieldType := fun k => match k with
  | 0 => .array .int
  | 1 => .array .int
  | 2 => .array .int
  | 3 => .array .int
  | 4 => .array .int
  | 5 => .array .int
  | 6 => .array .int
  | _ => .int
abbrev wsX00 : List Cond := u_ws RX0 TX0 8
theorem nmX0 : ∀ a, a < 8 → ∀ b, b < 8 → a ≠ b → (TX0 a).2.1 ≠ (TX0 b).2.1 := by decide +kernel
theorem tyX0_ok : ∀ k, k < 8 → parseFieldDescriptor (TX0 k).2.2.1 = some (tyX0 k) := by decide +kernel
abbrev cX0_init : ByteArray := prog_2_method_1_code
def yX0_init : MethodName := ⟨RX0, "<init>", "()V"⟩
abbrev cX0_add : ByteArray := prog_2_method_2_code
def yX0_add : MethodName := ⟨RX0, "add", "(IIII)I"⟩
abbrev cX0_copyFrom : ByteArray := prog_2_method_3_code
def yX0_copyFrom : MethodName := ⟨RX0, "copyFrom", "(LSafeParts$Channels;)V"⟩
abbrev cX0_find : ByteArray := prog_2_method_4_code
def yX0_find : MethodName := ⟨RX0, "find", "(II)I"⟩
abbrev cX0_countFrom : ByteArray := prog_2_method_5_code
def yX0_countFrom : MethodName := ⟨RX0, "countFrom", "(I)I"⟩
abbrev cX0_countTo : ByteArray := prog_2_method_6_code
def yX0_countTo : MethodName := ⟨RX0, "countTo", "(I)I"⟩
abbrev cX0_atPlaceFrom : ByteArray := prog_2_method_7_code
def yX0_atPlaceFrom : MethodName := ⟨RX0, "atPlaceFrom", "(II)I"⟩
abbrev cX0_ofLeastClockTo : ByteArray := prog_2_method_8_code
def yX0_ofLeastClockTo : MethodName := ⟨RX0, "ofLeastClockTo", "(I)I"⟩
abbrev cX0_promiseMoreThan : ByteArray := prog_2_method_9_code
def yX0_promiseMoreThan : MethodName := ⟨RX0, "promiseMoreThan", "(II)Z"⟩
abbrev cX0_raiseClocks : ByteArray := prog_2_method_10_code
def yX0_raiseClocks : MethodName := ⟨RX0, "raiseClocks", "(I)V"⟩
abbrev cX0_hasRingWithoutPromise : ByteArray := prog_2_method_11_code
def yX0_hasRingWithoutPromise : MethodName := ⟨RX0, "hasRingWithoutPromise", "(I)Z"⟩
abbrev cX0_reachedWithoutPromise : ByteArray := prog_2_method_12_code
def yX0_reachedWithoutPromise : MethodName := ⟨RX0, "reachedWithoutPromise", "(II)I"⟩
def RX1 : String := "SafeParts$Log"
def TX1 : u_T := fun k => match k with
  | 0 => ("SafeParts$Log", "part", "[I", true)
  | 1 => ("SafeParts$Log", "time", "[I", true)
  | 2 => ("SafeParts$Log", "value", "[I", true)
  | 3 => ("SafeParts$Log", "round", "[I", true)
  | _ => ("SafeParts$Log", "size", "I", false)
def tyX1 : Nat → FieldType := fun k => match k with
  | 0 => .array .int
  | 1 => .array .int
  | 2 => .array .int
  | 3 => .array .int
  | _ => .int
abbrev wsX10 : List Cond := u_ws RX1 TX1 5
theorem nmX1 : ∀ a, a < 5 → ∀ b, b < 5 → a ≠ b → (TX1 a).2.1 ≠ (TX1 b).2.1 := by decide +kernel
theorem tyX1_ok : ∀ k, k < 5 → parseFieldDescriptor (TX1 k).2.2.1 = some (tyX1 k) := by decide +kernel
abbrev cX1_init : ByteArray := prog_3_method_1_code
def yX1_init : MethodName := ⟨RX1, "<init>", "()V"⟩
abbrev cX1_clear : ByteArray := prog_3_method_2_code
def yX1_clear : MethodName := ⟨RX1, "clear", "()V"⟩
abbrev cX1_add : ByteArray := prog_3_method_3_code
def yX1_add : MethodName := ⟨RX1, "add", "(IIII)V"⟩
def RX2 : String := "SafeParts$Waiting"
def TX2 : u_T := fun k => match k with
  | 0 => ("SafeParts$Waiting", "time", "[I", true)
  | 1 => ("SafeParts$Waiting", "value", "[I", true)
  | 2 => ("SafeParts$Waiting", "way", "[I", true)
  | _ => ("SafeParts$Waiting", "size", "I", false)
def tyX2 : Nat → FieldType := fun k => match k with
  | 0 => .array .int
  | 1 => .array .int
  | 2 => .array .int
  | _ => .int
abbrev wsX20 : List Cond := u_ws RX2 TX2 4
theorem nmX2 : ∀ a, a < 4 → ∀ b, b < 4 → a ≠ b → (TX2 a).2.1 ≠ (TX2 b).2.1 := by decide +kernel
theorem tyX2_ok : ∀ k, k < 4 → parseFieldDescriptor (TX2 k).2.2.1 = some (tyX2 k) := by decide +kernel
abbrev cX2_init : ByteArray := prog_4_method_1_code
def yX2_init : MethodName := ⟨RX2, "<init>", "()V"⟩
abbrev cX2_firstTime : ByteArray := prog_4_method_2_code
def yX2_firstTime : MethodName := ⟨RX2, "firstTime", "()I"⟩
abbrev cX2_firstValue : ByteArray := prog_4_method_3_code
def yX2_firstValue : MethodName := ⟨RX2, "firstValue", "()I"⟩
abbrev cX2_add : ByteArray := prog_4_method_4_code
def yX2_add : MethodName := ⟨RX2, "add", "(III)V"⟩
abbrev cX2_isBehind : ByteArray := prog_4_method_5_code
def yX2_isBehind : MethodName := ⟨RX2, "isBehind", "(III)Z"⟩
abbrev cX2_removeFirst : ByteArray := prog_4_method_6_code
def yX2_removeFirst : MethodName := ⟨RX2, "removeFirst", "()V"⟩
abbrev cX2_copyFrom : ByteArray := prog_4_method_7_code
def yX2_copyFrom : MethodName := ⟨RX2, "copyFrom", "(LSafeParts$Waiting;)V"⟩
def RX3 : String := "SafeParts$World"
def TX3 : u_T := fun k => match k with
  | 0 => ("SafeParts$World", "channels", "LSafeParts$Channels;", true)
  | 1 => ("SafeParts$World", "waiting", "[LSafeParts$Waiting;", true)
  | 2 => ("SafeParts$World", "count", "[I", true)
  | 3 => ("SafeParts$World", "sum", "[I", true)
  | 4 => ("SafeParts$World", "now", "[I", true)
  | 5 => ("SafeParts$World", "partCount", "I", false)
  | 6 => ("SafeParts$World", "formNow", "I", false)
  | 7 => ("SafeParts$World", "workedOn", "I", false)
  | 8 => ("SafeParts$World", "emptyLetters", "I", false)
  | 9 => ("SafeParts$World", "rounds", "I", false)
  | 10 => ("SafeParts$World", "timesLetGo", "I", false)
  | _ => ("SafeParts$World", "toldByHand", "I", false)
def tyX3 : Nat → FieldType := fun k => match k with
  | 0 => .object "SafeParts$Channels"
  | 1 => .array (.object "SafeParts$Waiting")
  | 2 => .array .int
  | 3 => .array .int
  | 4 => .array .int
  | 5 => .int
  | 6 => .int
  | 7 => .int
  | 8 => .int
  | 9 => .int
  | 10 => .int
  | _ => .int
abbrev wsX30 : List Cond := u_ws RX3 TX3 12
theorem nmX3 : ∀ a, a < 12 → ∀ b, b < 12 → a ≠ b → (TX3 a).2.1 ≠ (TX3 b).2.1 := by decide +kernel
theorem tyX3_ok : ∀ k, k < 12 → parseFieldDescriptor (TX3 k).2.2.1 = some (tyX3 k) := by decide +kernel
abbrev cX3_init : ByteArray := prog_5_method_1_code
def yX3_init : MethodName := ⟨RX3, "<init>", "()V"⟩
abbrev cX3_beginAnew : ByteArray := prog_5_method_2_code
def yX3_beginAnew : MethodName := ⟨RX3, "beginAnew", "(I)V"⟩
abbrev cX3_copyFrom : ByteArray := prog_5_method_3_code
def yX3_copyFrom : MethodName := ⟨RX3, "copyFrom", "(LSafeParts$World;)V"⟩
abbrev cX3_roundsAndLetGo : ByteArray := prog_5_method_4_code
def yX3_roundsAndLetGo : MethodName := ⟨RX3, "roundsAndLetGo", "()I"⟩
abbrev cX3_eventsThatWait : ByteArray := prog_5_method_5_code
def yX3_eventsThatWait : MethodName := ⟨RX3, "eventsThatWait", "()I"⟩
abbrev cX3_partOfLeastTime : ByteArray := prog_5_method_6_code
def yX3_partOfLeastTime : MethodName := ⟨RX3, "partOfLeastTime", "()I"⟩
abbrev cX3_leastTime : ByteArray := prog_5_method_7_code
def yX3_leastTime : MethodName := ⟨RX3, "leastTime", "()I"⟩
abbrev cX3_safeOf : ByteArray := prog_5_method_8_code
def yX3_safeOf : MethodName := ⟨RX3, "safeOf", "(I)I"⟩
abbrev cX3_mayWork : ByteArray := prog_5_method_9_code
def yX3_mayWork : MethodName := ⟨RX3, "mayWork", "(I)Z"⟩
abbrev cX3_partsThatMay : ByteArray := prog_5_method_10_code
def yX3_partsThatMay : MethodName := ⟨RX3, "partsThatMay", "()I"⟩
abbrev cX3_channelWaitedFor : ByteArray := prog_5_method_11_code
def yX3_channelWaitedFor : MethodName := ⟨RX3, "channelWaitedFor", "(I)I"⟩
abbrev cX3_hasWorkedAtOrBehind : ByteArray := prog_5_method_12_code
def yX3_hasWorkedAtOrBehind : MethodName := ⟨RX3, "hasWorkedAtOrBehind", "(II)Z"⟩
abbrev cX3_tellByHand : ByteArray := prog_5_method_13_code
def yX3_tellByHand : MethodName := ⟨RX3, "tellByHand", "(III)I"⟩
abbrev cX3_workOnFirst : ByteArray := prog_5_method_14_code
def yX3_workOnFirst : MethodName := ⟨RX3, "workOnFirst", "(I)V"⟩
abbrev cX3_sendLetter : ByteArray := prog_5_method_15_code
def yX3_sendLetter : MethodName := ⟨RX3, "sendLetter", "(III)V"⟩
abbrev cX3_sendEmptyLetters : ByteArray := prog_5_method_16_code
def yX3_sendEmptyLetters : MethodName := ⟨RX3, "sendEmptyLetters", "(I)V"⟩
abbrev cX3_emptyMayGo : ByteArray := prog_5_method_17_code
def yX3_emptyMayGo : MethodName := ⟨RX3, "emptyMayGo", "(I)Z"⟩
def RX4 : String := "SafeParts"
def TX4 : u_T := fun k => match k with
  | 0 => ("SafeParts", "world", "LSafeParts$World;", true)
  | 1 => ("SafeParts", "trial", "LSafeParts$World;", true)
  | 2 => ("SafeParts", "images", "[LSafeParts$World;", true)
  | 3 => ("SafeParts", "isKept", "[Z", true)
  | 4 => ("SafeParts", "log", "LSafeParts$Log;", true)
  | _ => ("SafeParts", "leastTo", "[I", true)
def tyX4 : Nat → FieldType := fun k => match k with
  | 0 => .object "SafeParts$World"
  | 1 => .object "SafeParts$World"
  | 2 => .array (.object "SafeParts$World")
  | 3 => .array .boolean
  | 4 => .object "SafeParts$Log"
  | _ => .array .int
abbrev wsX40 : List Cond := u_ws RX4 TX4 6
theorem nmX4 : ∀ a, a < 6 → ∀ b, b < 6 → a ≠ b → (TX4 a).2.1 ≠ (TX4 b).2.1 := by decide +kernel
theorem tyX4_ok : ∀ k, k < 6 → parseFieldDescriptor (TX4 k).2.2.1 = some (tyX4 k) := by decide +kernel
abbrev cX4_init : ByteArray := prog_1_method_1_code
def yX4_init : MethodName := ⟨RX4, "<init>", "()V"⟩
abbrev cX4_parts : ByteArray := prog_1_method_2_code
def yX4_parts : MethodName := ⟨RX4, "parts", "(I)I"⟩
abbrev cX4_channel : ByteArray := prog_1_method_3_code
def yX4_channel : MethodName := ⟨RX4, "channel", "(IIII)I"⟩
abbrev cX4_event : ByteArray := prog_1_method_4_code
def yX4_event : MethodName := ⟨RX4, "event", "(III)I"⟩
abbrev cX4_form : ByteArray := prog_1_method_5_code
def yX4_form : MethodName := ⟨RX4, "form", "(I)I"⟩
abbrev cX4_drift : ByteArray := prog_1_method_6_code
def yX4_drift : MethodName := ⟨RX4, "drift", "(II)I"⟩
abbrev cX4_run : ByteArray := prog_1_method_7_code
def yX4_run : MethodName := ⟨RX4, "run", "(I)I"⟩
abbrev cX4_letGo : ByteArray := prog_1_method_8_code
def yX4_letGo : MethodName := ⟨RX4, "letGo", "()I"⟩
abbrev cX4_finish : ByteArray := prog_1_method_9_code
def yX4_finish : MethodName := ⟨RX4, "finish", "()I"⟩
abbrev cX4_told : ByteArray := prog_1_method_10_code
def yX4_told : MethodName := ⟨RX4, "told", "(I)I"⟩
abbrev cX4_part : ByteArray := prog_1_method_11_code
def yX4_part : MethodName := ⟨RX4, "part", "(II)I"⟩
abbrev cX4_channelOf : ByteArray := prog_1_method_12_code
def yX4_channelOf : MethodName := ⟨RX4, "channelOf", "(II)I"⟩
abbrev cX4_between : ByteArray := prog_1_method_13_code
def yX4_between : MethodName := ⟨RX4, "between", "(II)I"⟩
abbrev cX4_record : ByteArray := prog_1_method_14_code
def yX4_record : MethodName := ⟨RX4, "record", "(II)I"⟩
abbrev cX4_ring : ByteArray := prog_1_method_15_code
def yX4_ring : MethodName := ⟨RX4, "ring", "(I)I"⟩
abbrev cX4_waits : ByteArray := prog_1_method_16_code
def yX4_waits : MethodName := ⟨RX4, "waits", "(I)I"⟩
abbrev cX4_inOrder : ByteArray := prog_1_method_17_code
def yX4_inOrder : MethodName := ⟨RX4, "inOrder", "(II)I"⟩
abbrev cX4_keep : ByteArray := prog_1_method_18_code
def yX4_keep : MethodName := ⟨RX4, "keep", "(I)I"⟩
abbrev cX4_goBack : ByteArray := prog_1_method_19_code
def yX4_goBack : MethodName := ⟨RX4, "goBack", "(I)I"⟩
abbrev cX4_isOutside : ByteArray := prog_1_method_20_code
def yX4_isOutside : MethodName := ⟨RX4, "isOutside", "(III)Z"⟩
abbrev cX4_isNoImage : ByteArray := prog_1_method_21_code
def yX4_isNoImage : MethodName := ⟨RX4, "isNoImage", "(I)Z"⟩
abbrev cX4_isNoPart : ByteArray := prog_1_method_22_code
def yX4_isNoPart : MethodName := ⟨RX4, "isNoPart", "(I)Z"⟩
abbrev cX4_areNotTwoParts : ByteArray := prog_1_method_23_code
def yX4_areNotTwoParts : MethodName := ⟨RX4, "areNotTwoParts", "(II)Z"⟩
abbrev cX4_refusalOfEvent : ByteArray := prog_1_method_24_code
def yX4_refusalOfEvent : MethodName := ⟨RX4, "refusalOfEvent", "(III)I"⟩
abbrev cX4_nothingIsRun : ByteArray := prog_1_method_25_code
def yX4_nothingIsRun : MethodName := ⟨RX4, "nothingIsRun", "()Z"⟩
abbrev cX4_nextLot : ByteArray := prog_1_method_26_code
def yX4_nextLot : MethodName := ⟨RX4, "nextLot", "(J)J"⟩
abbrev cX4_isStillAfterRound : ByteArray := prog_1_method_27_code
def yX4_isStillAfterRound : MethodName := ⟨RX4, "isStillAfterRound", "()Z"⟩
abbrev cX4_letEarliestGo : ByteArray := prog_1_method_28_code
def yX4_letEarliestGo : MethodName := ⟨RX4, "letEarliestGo", "()I"⟩
abbrev cX4_workAndWriteDown : ByteArray := prog_1_method_29_code
def yX4_workAndWriteDown : MethodName := ⟨RX4, "workAndWriteDown", "(I)V"⟩
abbrev cX4_leastPromisesRound : ByteArray := prog_1_method_30_code
def yX4_leastPromisesRound : MethodName := ⟨RX4, "leastPromisesRound", "(I)I"⟩
def RX5 : String := "SafePartsModel"
def TX5 : u_T := fun k => match k with
  | 0 => ("SafePartsModel", "w", "[I", true)
  | 1 => ("SafePartsModel", "isKept", "[Z", true)
  | 2 => ("SafePartsModel", "entries", "I", false)
  | 3 => ("SafePartsModel", "records", "[I", true)
  | 4 => ("SafePartsModel", "lot", "J", false)
  | _ => ("SafePartsModel", "far", "[I", true)
def tyX5 : Nat → FieldType := fun k => match k with
  | 0 => .array .int
  | 1 => .array .boolean
  | 2 => .int
  | 3 => .array .int
  | 4 => .long
  | _ => .array .int
abbrev wsX50 : List Cond := u_ws RX5 TX5 6
theorem nmX5 : ∀ a, a < 6 → ∀ b, b < 6 → a ≠ b → (TX5 a).2.1 ≠ (TX5 b).2.1 := by decide +kernel
theorem tyX5_ok : ∀ k, k < 6 → parseFieldDescriptor (TX5 k).2.2.1 = some (tyX5 k) := by decide +kernel
abbrev cX5_init : ByteArray := prog_7_method_1_code
def yX5_init : MethodName := ⟨RX5, "<init>", "()V"⟩
abbrev cX5_in : ByteArray := prog_7_method_3_code
def yX5_in : MethodName := ⟨RX5, "in", "(JJJ)Z"⟩
abbrev cX5_has : ByteArray := prog_7_method_4_code
def yX5_has : MethodName := ⟨RX5, "has", "(II)Z"⟩
abbrev cX5_copy : ByteArray := prog_7_method_5_code
def yX5_copy : MethodName := ⟨RX5, "copy", "(II)V"⟩
abbrev cX5_isPart : ByteArray := prog_7_method_6_code
def yX5_isPart : MethodName := ⟨RX5, "isPart", "(I)Z"⟩
abbrev cX5_isChannel : ByteArray := prog_7_method_7_code
def yX5_isChannel : MethodName := ⟨RX5, "isChannel", "(I)Z"⟩
abbrev cX5_at : ByteArray := prog_7_method_8_code
def yX5_at : MethodName := ⟨RX5, "at", "(II)I"⟩
abbrev cX5_parts : ByteArray := prog_7_method_9_code
def yX5_parts : MethodName := ⟨RX5, "parts", "(I)I"⟩
abbrev cX5_wayOf : ByteArray := prog_7_method_10_code
def yX5_wayOf : MethodName := ⟨RX5, "wayOf", "(II)I"⟩
abbrev cX5_channel : ByteArray := prog_7_method_11_code
def yX5_channel : MethodName := ⟨RX5, "channel", "(IIII)I"⟩
abbrev cX5_comes : ByteArray := prog_7_method_12_code
def yX5_comes : MethodName := ⟨RX5, "comes", "(IIIII)V"⟩
abbrev cX5_waitFor : ByteArray := prog_7_method_13_code
def yX5_waitFor : MethodName := ⟨RX5, "waitFor", "(II)I"⟩
abbrev cX5_isPromised : ByteArray := prog_7_method_14_code
def yX5_isPromised : MethodName := ⟨RX5, "isPromised", "(II)Z"⟩
abbrev cX5_event : ByteArray := prog_7_method_15_code
def yX5_event : MethodName := ⟨RX5, "event", "(III)I"⟩
abbrev cX5_form : ByteArray := prog_7_method_16_code
def yX5_form : MethodName := ⟨RX5, "form", "(I)I"⟩
abbrev cX5_draw : ByteArray := prog_7_method_17_code
def yX5_draw : MethodName := ⟨RX5, "draw", "(I)I"⟩
abbrev cX5_drift : ByteArray := prog_7_method_18_code
def yX5_drift : MethodName := ⟨RX5, "drift", "(II)I"⟩
abbrev cX5_isAhead : ByteArray := prog_7_method_19_code
def yX5_isAhead : MethodName := ⟨RX5, "isAhead", "(II)Z"⟩
abbrev cX5_firstOf : ByteArray := prog_7_method_20_code
def yX5_firstOf : MethodName := ⟨RX5, "firstOf", "(II)I"⟩
abbrev cX5_firstTime : ByteArray := prog_7_method_21_code
def yX5_firstTime : MethodName := ⟨RX5, "firstTime", "(II)I"⟩
abbrev cX5_leastTo : ByteArray := prog_7_method_22_code
def yX5_leastTo : MethodName := ⟨RX5, "leastTo", "(I)I"⟩
abbrev cX5_safe : ByteArray := prog_7_method_23_code
def yX5_safe : MethodName := ⟨RX5, "safe", "(I)I"⟩
abbrev cX5_may : ByteArray := prog_7_method_24_code
def yX5_may : MethodName := ⟨RX5, "may", "(I)Z"⟩
abbrev cX5_outOf : ByteArray := prog_7_method_25_code
def yX5_outOf : MethodName := ⟨RX5, "outOf", "(II)I"⟩
abbrev cX5_outAt : ByteArray := prog_7_method_26_code
def yX5_outAt : MethodName := ⟨RX5, "outAt", "(III)I"⟩
abbrev cX5_works : ByteArray := prog_7_method_27_code
def yX5_works : MethodName := ⟨RX5, "works", "(II)V"⟩
abbrev cX5_empties : ByteArray := prog_7_method_28_code
def yX5_empties : MethodName := ⟨RX5, "empties", "(I)I"⟩
abbrev cX5_rounds : ByteArray := prog_7_method_29_code
def yX5_rounds : MethodName := ⟨RX5, "rounds", "()Z"⟩
abbrev cX5_leastTime : ByteArray := prog_7_method_30_code
def yX5_leastTime : MethodName := ⟨RX5, "leastTime", "()I"⟩
abbrev cX5_lets : ByteArray := prog_7_method_31_code
def yX5_lets : MethodName := ⟨RX5, "lets", "()I"⟩
abbrev cX5_isRing : ByteArray := prog_7_method_32_code
def yX5_isRing : MethodName := ⟨RX5, "isRing", "()Z"⟩
abbrev cX5_canRun : ByteArray := prog_7_method_33_code
def yX5_canRun : MethodName := ⟨RX5, "canRun", "()Z"⟩
abbrev cX5_run : ByteArray := prog_7_method_34_code
def yX5_run : MethodName := ⟨RX5, "run", "(I)I"⟩
abbrev cX5_allMay : ByteArray := prog_7_method_35_code
def yX5_allMay : MethodName := ⟨RX5, "allMay", "()I"⟩
abbrev cX5_letGo : ByteArray := prog_7_method_36_code
def yX5_letGo : MethodName := ⟨RX5, "letGo", "()I"⟩
abbrev cX5_finish : ByteArray := prog_7_method_37_code
def yX5_finish : MethodName := ⟨RX5, "finish", "()I"⟩
abbrev cX5_told : ByteArray := prog_7_method_38_code
def yX5_told : MethodName := ⟨RX5, "told", "(I)I"⟩
abbrev cX5_waitsBy : ByteArray := prog_7_method_39_code
def yX5_waitsBy : MethodName := ⟨RX5, "waitsBy", "(I)I"⟩
abbrev cX5_waysTo : ByteArray := prog_7_method_40_code
def yX5_waysTo : MethodName := ⟨RX5, "waysTo", "(I)I"⟩
abbrev cX5_firstValue : ByteArray := prog_7_method_41_code
def yX5_firstValue : MethodName := ⟨RX5, "firstValue", "(I)I"⟩
abbrev cX5_part : ByteArray := prog_7_method_42_code
def yX5_part : MethodName := ⟨RX5, "part", "(II)I"⟩
abbrev cX5_channelOf : ByteArray := prog_7_method_43_code
def yX5_channelOf : MethodName := ⟨RX5, "channelOf", "(II)I"⟩
abbrev cX5_between : ByteArray := prog_7_method_44_code
def yX5_between : MethodName := ⟨RX5, "between", "(II)I"⟩
abbrev cX5_record : ByteArray := prog_7_method_45_code
def yX5_record : MethodName := ⟨RX5, "record", "(II)I"⟩
abbrev cX5_ringOf : ByteArray := prog_7_method_46_code
def yX5_ringOf : MethodName := ⟨RX5, "ringOf", "(I)I"⟩
abbrev cX5_ring : ByteArray := prog_7_method_47_code
def yX5_ring : MethodName := ⟨RX5, "ring", "(I)I"⟩
abbrev cX5_waits : ByteArray := prog_7_method_48_code
def yX5_waits : MethodName := ⟨RX5, "waits", "(I)I"⟩
abbrev cX5_inOrder : ByteArray := prog_7_method_49_code
def yX5_inOrder : MethodName := ⟨RX5, "inOrder", "(II)I"⟩
abbrev cX5_keep : ByteArray := prog_7_method_50_code
def yX5_keep : MethodName := ⟨RX5, "keep", "(I)I"⟩
abbrev cX5_goBack : ByteArray := prog_7_method_51_code
def yX5_goBack : MethodName := ⟨RX5, "goBack", "(I)I"⟩
def RJ9 : String := "java/lang/Math"
def TJ9 : u_T := fun k => match k with
  | _ => ("", "", "", false)
def tyJ9 : Nat → FieldType := fun k => match k with
  | _ => .int
abbrev wsJ90 : List Cond := u_ws RJ9 TJ9 0
theorem nmJ9 : ∀ a, a < 0 → ∀ b, b < 0 → a ≠ b → (TJ9 a).2.1 ≠ (TJ9 b).2.1 := by decide +kernel
theorem tyJ9_ok : ∀ k, k < 0 → parseFieldDescriptor (TJ9 k).2.2.1 = some (tyJ9 k) := by decide +kernel
abbrev cJ9_max_7cf53 : ByteArray := prog_8_method_65_code
def yJ9_max_7cf53 : MethodName := ⟨RJ9, "max", "(II)I"⟩
abbrev cJ9_min_7cf53 : ByteArray := prog_8_method_69_code
def yJ9_min_7cf53 : MethodName := ⟨RJ9, "min", "(II)I"⟩
def RJ10 : String := "java/lang/System"
def TJ10 : u_T := fun k => match k with
  | _ => ("", "", "", false)
def tyJ10 : Nat → FieldType := fun k => match k with
  | _ => .int
abbrev wsJ100 : List Cond := u_ws RJ10 TJ10 0
theorem nmJ10 : ∀ a, a < 0 → ∀ b, b < 0 → a ≠ b → (TJ10 a).2.1 ≠ (TJ10 b).2.1 := by decide +kernel
theorem tyJ10_ok : ∀ k, k < 0 → parseFieldDescriptor (TJ10 k).2.2.1 = some (tyJ10 k) := by decide +kernel
def RL : String := "SafePartsLaw"
abbrev cL_law : ByteArray := code
def yL_law : MethodName := ⟨RL, "law", "([I)Z"⟩
def wsL_law_r1 : List Cond := [Cond.classLink RL 7 RX4, Cond.instantiable RX4 6, Cond.initialized RX4, Cond.classLink RL 10 RX5, Cond.instantiable RX5 6, Cond.initialized RX5, Cond.methodLink RL 9 yX4_init, Cond.instanceMethod yX4_init, Cond.code yX4_init cX4_init 2 none, Cond.methodLink RX4 1 objectInit, Cond.instanceMethod objectInit, Cond.code objectInit ⟨#[0xb1]⟩ 1 none, Cond.classLink RX4 7 RX3, Cond.instantiable RX3 12, Cond.initialized RX3, Cond.fieldLink RX4 10 "SafeParts" "world" "LSafeParts$World;", Cond.fieldLink RX4 16 "SafeParts" "trial" "LSafeParts$World;", Cond.fieldLink RX4 19 "SafeParts" "images" "[LSafeParts$World;", Cond.arrayClass .boolean, Cond.fieldLink RX4 23 "SafeParts" "isKept" "[Z", Cond.classLink RX4 27 RX1, Cond.instantiable RX1 5, Cond.initialized RX1, Cond.fieldLink RX4 30 "SafeParts" "log" "LSafeParts$Log;"]
def wsL_law_r2 : List Cond := [Cond.arrayClass .int, Cond.fieldLink RX4 34 "SafeParts" "leastTo" "[I", Cond.methodLink RX4 9 yX3_init, Cond.instanceMethod yX3_init, Cond.code yX3_init cX3_init 2 none, Cond.methodLink RX3 3 objectInit, Cond.classLink RX3 9 RX0, Cond.instantiable RX0 8, Cond.initialized RX0, Cond.fieldLink RX3 12 "SafeParts$World" "channels" "LSafeParts$Channels;", Cond.classLink RX3 18 RX2, Cond.fieldLink RX3 20 "SafeParts$World" "waiting" "[LSafeParts$Waiting;", Cond.fieldLink RX3 24 "SafeParts$World" "count" "[I", Cond.fieldLink RX3 28 "SafeParts$World" "sum" "[I", Cond.fieldLink RX3 31 "SafeParts$World" "now" "[I", Cond.fieldLink RX3 34 "SafeParts$World" "formNow" "I", Cond.instantiable RX2 4, Cond.initialized RX2, Cond.instanceMethod yX0_init, Cond.code yX0_init cX0_init 1 none, Cond.methodLink RX0 3 objectInit, Cond.fieldLink RX0 9 "SafeParts$Channels" "from" "[I", Cond.fieldLink RX0 15 "SafeParts$Channels" "to" "[I", Cond.fieldLink RX0 18 "SafeParts$Channels" "promise" "[I"]
def wsL_law_r3 : List Cond := [Cond.fieldLink RX0 21 "SafeParts$Channels" "delay" "[I", Cond.fieldLink RX0 24 "SafeParts$Channels" "clock" "[I", Cond.fieldLink RX0 27 "SafeParts$Channels" "letters" "[I", Cond.fieldLink RX0 30 "SafeParts$Channels" "empties" "[I", Cond.instanceMethod yX2_init, Cond.code yX2_init cX2_init 1 none, Cond.methodLink RX2 3 objectInit, Cond.fieldLink RX2 9 "SafeParts$Waiting" "time" "[I", Cond.fieldLink RX2 15 "SafeParts$Waiting" "value" "[I", Cond.fieldLink RX2 18 "SafeParts$Waiting" "way" "[I", Cond.instanceMethod yX1_init, Cond.code yX1_init cX1_init 1 none, Cond.methodLink RX1 3 objectInit, Cond.fieldLink RX1 9 "SafeParts$Log" "part" "[I", Cond.fieldLink RX1 15 "SafeParts$Log" "time" "[I", Cond.fieldLink RX1 18 "SafeParts$Log" "value" "[I", Cond.fieldLink RX1 21 "SafeParts$Log" "round" "[I", Cond.methodLink RL 12 yX5_init, Cond.instanceMethod yX5_init, Cond.code yX5_init cX5_init 1 none, Cond.methodLink RX5 1 objectInit, Cond.fieldLink RX5 7 "SafePartsModel" "w" "[I", Cond.fieldLink RX5 13 "SafePartsModel" "isKept" "[Z", Cond.fieldLink RX5 17 "SafePartsModel" "records" "[I"]
def wsL_law_r4 : List Cond := [Cond.fieldLink RX5 20 "SafePartsModel" "far" "[I", Cond.methodLink RL 13 yX4_parts, Cond.instanceMethod yX4_parts, Cond.selects RX4 yX4_parts yX4_parts, Cond.code yX4_parts cX4_parts 4 (some .int), Cond.constant RX4 42 (-1000000002), Cond.fieldLink RX4 43 "SafeParts$World" "workedOn" "I", Cond.methodLink RX4 38 yX4_isOutside, Cond.static yX4_isOutside, Cond.code yX4_isOutside cX4_isOutside 3 (some .boolean), Cond.methodLink RX4 47 yX3_beginAnew, Cond.instanceMethod yX3_beginAnew, Cond.selects RX3 yX3_beginAnew yX3_beginAnew, Cond.code yX3_beginAnew cX3_beginAnew 3 none, Cond.fieldLink RX3 39 "SafeParts$Channels" "size" "I", Cond.fieldLink RX3 42 "SafeParts$Waiting" "size" "I", Cond.fieldLink RX3 43 "SafeParts$World" "partCount" "I", Cond.fieldLink RX3 46 "SafeParts$World" "workedOn" "I", Cond.fieldLink RX3 49 "SafeParts$World" "emptyLetters" "I", Cond.fieldLink RX3 52 "SafeParts$World" "rounds" "I", Cond.fieldLink RX3 55 "SafeParts$World" "timesLetGo" "I", Cond.fieldLink RX3 58 "SafeParts$World" "toldByHand" "I", Cond.methodLink RX4 51 yX1_clear, Cond.instanceMethod yX1_clear]
def wsL_law_r5 : List Cond := [Cond.selects RX1 yX1_clear yX1_clear, Cond.code yX1_clear cX1_clear 1 none, Cond.fieldLink RX1 24 "SafeParts$Log" "size" "I", Cond.methodLink RL 17 yX5_parts, Cond.instanceMethod yX5_parts, Cond.selects RX5 yX5_parts yX5_parts, Cond.code yX5_parts cX5_parts 5 (some .int), Cond.constantLong RX5 27 (6), Cond.constant RX5 29 (-1000000002), Cond.fieldLink RX5 30 "SafePartsModel" "entries" "I", Cond.methodLink RX5 23 yX5_in, Cond.static yX5_in, Cond.code yX5_in cX5_in 6 (some .boolean), Cond.methodLink RL 18 yX4_channel, Cond.instanceMethod yX4_channel, Cond.selects RX4 yX4_channel yX4_channel, Cond.code yX4_channel cX4_channel 5 (some .int), Cond.constant RX4 58 (-1000000001), Cond.fieldLink RX4 59 "SafeParts$World" "channels" "LSafeParts$Channels;", Cond.constant RX4 73 (-1000000003), Cond.fieldLink RX4 74 "SafeParts$Channels" "size" "I", Cond.constant RX4 77 (-1000000004), Cond.methodLink RX4 54 yX4_areNotTwoParts, Cond.instanceMethod yX4_areNotTwoParts]
def wsL_law_r6 : List Cond := [Cond.selects RX4 yX4_areNotTwoParts yX4_areNotTwoParts, Cond.code yX4_areNotTwoParts cX4_areNotTwoParts 3 (some .boolean), Cond.methodLink RX4 143 yX4_isNoPart, Cond.instanceMethod yX4_isNoPart, Cond.selects RX4 yX4_isNoPart yX4_isNoPart, Cond.code yX4_isNoPart cX4_isNoPart 2 (some .boolean), Cond.fieldLink RX4 93 "SafeParts$World" "partCount" "I", Cond.methodLink RX4 63 yX0_find, Cond.instanceMethod yX0_find, Cond.selects RX0 yX0_find yX0_find, Cond.code yX0_find cX0_find 4 (some .int), Cond.fieldLink RX0 33 "SafeParts$Channels" "size" "I", Cond.methodLink RX4 69 yX3_roundsAndLetGo, Cond.instanceMethod yX3_roundsAndLetGo, Cond.selects RX3 yX3_roundsAndLetGo yX3_roundsAndLetGo, Cond.code yX3_roundsAndLetGo cX3_roundsAndLetGo 1 (some .int), Cond.methodLink RX4 78 yX0_add, Cond.instanceMethod yX0_add, Cond.selects RX0 yX0_add yX0_add, Cond.code yX0_add cX0_add 6 (some .int), Cond.methodLink RL 22 yX5_channel, Cond.instanceMethod yX5_channel, Cond.selects RX5 yX5_channel yX5_channel, Cond.code yX5_channel cX5_channel 6 (some .int)]
def wsL_law_r7 : List Cond := [Cond.constant RX5 42 (-1000000001), Cond.constantLong RX5 43 (99), Cond.constant RX5 48 (-1000000003), Cond.constant RX5 49 (-1000000004), Cond.methodLink RX5 38 yX5_isPart, Cond.instanceMethod yX5_isPart, Cond.selects RX5 yX5_isPart yX5_isPart, Cond.code yX5_isPart cX5_isPart 2 (some .boolean), Cond.methodLink RX5 45 yX5_wayOf, Cond.instanceMethod yX5_wayOf, Cond.selects RX5 yX5_wayOf yX5_wayOf, Cond.code yX5_wayOf cX5_wayOf 4 (some .int), Cond.methodLink RX5 34 yX5_at, Cond.static yX5_at, Cond.code yX5_at cX5_at 2 (some .int), Cond.methodLink RL 23 yX4_event, Cond.instanceMethod yX4_event, Cond.selects RX4 yX4_event yX4_event, Cond.code yX4_event cX4_event 5 (some .int), Cond.methodLink RX4 82 yX4_refusalOfEvent, Cond.instanceMethod yX4_refusalOfEvent, Cond.selects RX4 yX4_refusalOfEvent yX4_refusalOfEvent, Cond.code yX4_refusalOfEvent cX4_refusalOfEvent 4 (some .int), Cond.fieldLink RX4 140 "SafeParts$World" "toldByHand" "I"]
def wsL_law_r8 : List Cond := [Cond.methodLink RX4 231 yX3_hasWorkedAtOrBehind, Cond.instanceMethod yX3_hasWorkedAtOrBehind, Cond.selects RX3 yX3_hasWorkedAtOrBehind yX3_hasWorkedAtOrBehind, Cond.code yX3_hasWorkedAtOrBehind cX3_hasWorkedAtOrBehind 3 (some .boolean), Cond.methodLink RX4 234 yX0_promiseMoreThan, Cond.instanceMethod yX0_promiseMoreThan, Cond.selects RX0 yX0_promiseMoreThan yX0_promiseMoreThan, Cond.code yX0_promiseMoreThan cX0_promiseMoreThan 4 (some .boolean), Cond.methodLink RX4 86 yX3_tellByHand, Cond.instanceMethod yX3_tellByHand, Cond.selects RX3 yX3_tellByHand yX3_tellByHand, Cond.code yX3_tellByHand cX3_tellByHand 4 (some .int), Cond.methodLink RX3 90 yX2_add, Cond.instanceMethod yX2_add, Cond.selects RX2 yX2_add yX2_add, Cond.code yX2_add cX2_add 5 none, Cond.fieldLink RX2 21 "SafeParts$Waiting" "size" "I", Cond.methodLink RX2 26 yX2_isBehind, Cond.instanceMethod yX2_isBehind, Cond.selects RX2 yX2_isBehind yX2_isBehind, Cond.code yX2_isBehind cX2_isBehind 4 (some .boolean), Cond.methodLink RL 27 yX5_event, Cond.instanceMethod yX5_event, Cond.selects RX5 yX5_event yX5_event]
def wsL_law_r9 : List Cond := [Cond.code yX5_event cX5_event 4 (some .int), Cond.constantLong RX5 50 (9999), Cond.methodLink RX5 52 yX5_isPromised, Cond.instanceMethod yX5_isPromised, Cond.selects RX5 yX5_isPromised yX5_isPromised, Cond.code yX5_isPromised cX5_isPromised 5 (some .boolean), Cond.methodLink RX5 56 yX5_comes, Cond.instanceMethod yX5_comes, Cond.selects RX5 yX5_comes yX5_comes, Cond.code yX5_comes cX5_comes 7 none, Cond.methodLink RX5 60 yX5_waitFor, Cond.instanceMethod yX5_waitFor, Cond.selects RX5 yX5_waitFor yX5_waitFor, Cond.code yX5_waitFor cX5_waitFor 5 (some .int), Cond.methodLink RL 28 yX4_form, Cond.instanceMethod yX4_form, Cond.selects RX4 yX4_form yX4_form, Cond.code yX4_form cX4_form 3 (some .int), Cond.fieldLink RX4 89 "SafeParts$World" "formNow" "I", Cond.methodLink RL 31 yX5_form, Cond.instanceMethod yX5_form, Cond.selects RX5 yX5_form yX5_form, Cond.code yX5_form cX5_form 3 (some .int), Cond.constantLong RX5 63 (2)]
def wsL_law_r10 : List Cond := [Cond.methodLink RL 32 yX4_drift, Cond.instanceMethod yX4_drift, Cond.selects RX4 yX4_drift yX4_drift, Cond.code yX4_drift cX4_drift 11 (some .int), Cond.constant RX4 92 (999999), Cond.fieldLink RX4 100 "SafeParts$World" "now" "[I", Cond.constantLong RX4 103 (50), Cond.constantLong RX4 105 (20), Cond.methodLink RX4 96 yX4_nextLot, Cond.static yX4_nextLot, Cond.code yX4_nextLot cX4_nextLot 2 (some .long), Cond.constantLong RX4 237 (16807), Cond.constantLong RX4 239 (2147483647), Cond.methodLink RL 36 yX5_drift, Cond.instanceMethod yX5_drift, Cond.selects RX5 yX5_drift yX5_drift, Cond.code yX5_drift cX5_drift 8 (some .int), Cond.constantLong RX5 73 (20), Cond.constantLong RX5 75 (999999), Cond.fieldLink RX5 65 "SafePartsModel" "lot" "J", Cond.methodLink RX5 77 yX5_draw, Cond.instanceMethod yX5_draw, Cond.selects RX5 yX5_draw yX5_draw, Cond.code yX5_draw cX5_draw 2 (some .int)]
def wsL_law_r11 : List Cond := [Cond.constantLong RX5 69 (16807), Cond.constantLong RX5 71 (2147483647), Cond.methodLink RX5 81 yX5_event, Cond.methodLink RL 37 yX4_run, Cond.instanceMethod yX4_run, Cond.selects RX4 yX4_run yX4_run, Cond.code yX4_run cX4_run 5 (some .int), Cond.methodLink RX4 107 yX4_nothingIsRun, Cond.instanceMethod yX4_nothingIsRun, Cond.selects RX4 yX4_nothingIsRun yX4_nothingIsRun, Cond.code yX4_nothingIsRun cX4_nothingIsRun 1 (some .boolean), Cond.methodLink RX4 136 yX0_hasRingWithoutPromise, Cond.instanceMethod yX0_hasRingWithoutPromise, Cond.selects RX0 yX0_hasRingWithoutPromise yX0_hasRingWithoutPromise, Cond.code yX0_hasRingWithoutPromise cX0_hasRingWithoutPromise 3 (some .boolean), Cond.methodLink RX0 49 yX0_reachedWithoutPromise, Cond.instanceMethod yX0_reachedWithoutPromise, Cond.selects RX0 yX0_reachedWithoutPromise yX0_reachedWithoutPromise, Cond.code yX0_reachedWithoutPromise cX0_reachedWithoutPromise 7 (some .int), Cond.methodLink RX4 111 yX3_eventsThatWait, Cond.instanceMethod yX3_eventsThatWait, Cond.selects RX3 yX3_eventsThatWait yX3_eventsThatWait, Cond.code yX3_eventsThatWait cX3_eventsThatWait 3 (some .int), Cond.methodLink RX4 114 yX4_isStillAfterRound]
def wsL_law_r12 : List Cond := [Cond.instanceMethod yX4_isStillAfterRound, Cond.selects RX4 yX4_isStillAfterRound yX4_isStillAfterRound, Cond.code yX4_isStillAfterRound cX4_isStillAfterRound 4 (some .boolean), Cond.fieldLink RX4 123 "SafeParts$World" "emptyLetters" "I", Cond.fieldLink RX4 126 "SafeParts$World" "rounds" "I", Cond.methodLink RX4 169 yX3_mayWork, Cond.instanceMethod yX3_mayWork, Cond.selects RX3 yX3_mayWork yX3_mayWork, Cond.code yX3_mayWork cX3_mayWork 2 (some .boolean), Cond.methodLink RX3 68 yX2_firstTime, Cond.instanceMethod yX2_firstTime, Cond.selects RX2 yX2_firstTime yX2_firstTime, Cond.code yX2_firstTime cX2_firstTime 1 (some .int), Cond.constant RX2 25 (99999999), Cond.methodLink RX3 83 yX3_safeOf, Cond.instanceMethod yX3_safeOf, Cond.selects RX3 yX3_safeOf yX3_safeOf, Cond.code yX3_safeOf cX3_safeOf 3 (some .int), Cond.constant RX3 79 (99999999), Cond.fieldLink RX3 80 "SafeParts$Channels" "clock" "[I", Cond.methodLink RX3 75 yX0_ofLeastClockTo, Cond.instanceMethod yX0_ofLeastClockTo, Cond.selects RX0 yX0_ofLeastClockTo yX0_ofLeastClockTo, Cond.code yX0_ofLeastClockTo cX0_ofLeastClockTo 4 (some .int)]
def wsL_law_r13 : List Cond := [Cond.methodLink RX4 241 yX4_workAndWriteDown, Cond.instanceMethod yX4_workAndWriteDown, Cond.selects RX4 yX4_workAndWriteDown yX4_workAndWriteDown, Cond.code yX4_workAndWriteDown cX4_workAndWriteDown 3 none, Cond.fieldLink RX4 156 "SafeParts$World" "waiting" "[LSafeParts$Waiting;", Cond.methodLink RX4 163 yX2_firstTime, Cond.methodLink RX4 166 yX2_firstValue, Cond.instanceMethod yX2_firstValue, Cond.selects RX2 yX2_firstValue yX2_firstValue, Cond.code yX2_firstValue cX2_firstValue 1 (some .int), Cond.methodLink RX4 250 yX1_add, Cond.instanceMethod yX1_add, Cond.selects RX1 yX1_add yX1_add, Cond.code yX1_add cX1_add 5 none, Cond.methodLink RX4 225 yX3_workOnFirst, Cond.instanceMethod yX3_workOnFirst, Cond.selects RX3 yX3_workOnFirst yX3_workOnFirst, Cond.code yX3_workOnFirst cX3_workOnFirst 5 none, Cond.constant RX3 100 (1000003), Cond.methodLink RX3 94 yX2_firstValue, Cond.methodLink RX3 97 yX2_removeFirst, Cond.instanceMethod yX2_removeFirst, Cond.selects RX2 yX2_removeFirst yX2_removeFirst, Cond.code yX2_removeFirst cX2_removeFirst 1 none]
def wsL_law_r14 : List Cond := [Cond.methodLink RX2 30 arraycopyName, Cond.native arraycopyName, Cond.static arraycopyName, Cond.initialized "java/lang/System", Cond.methodLink RX3 101 yX3_sendLetter, Cond.instanceMethod yX3_sendLetter, Cond.selects RX3 yX3_sendLetter yX3_sendLetter, Cond.code yX3_sendLetter cX3_sendLetter 7 none, Cond.fieldLink RX3 111 "SafeParts$Channels" "delay" "[I", Cond.fieldLink RX3 114 "SafeParts$Channels" "to" "[I", Cond.fieldLink RX3 117 "SafeParts$Channels" "letters" "[I", Cond.methodLink RX3 120 Lib.Math.max.name, Cond.static Lib.Math.max.name, Cond.initialized "java/lang/Math", Cond.code Lib.Math.max.name Lib.Math.max.code 2 (some .int), Cond.methodLink RX3 104 yX0_countFrom, Cond.instanceMethod yX0_countFrom, Cond.selects RX0 yX0_countFrom yX0_countFrom, Cond.code yX0_countFrom cX0_countFrom 4 (some .int), Cond.methodLink RX3 107 yX0_atPlaceFrom, Cond.instanceMethod yX0_atPlaceFrom, Cond.selects RX0 yX0_atPlaceFrom yX0_atPlaceFrom, Cond.code yX0_atPlaceFrom cX0_atPlaceFrom 5 (some .int), Cond.methodLink RX4 244 yX3_sendEmptyLetters]
def wsL_law_r15 : List Cond := [Cond.instanceMethod yX3_sendEmptyLetters, Cond.selects RX3 yX3_sendEmptyLetters yX3_sendEmptyLetters, Cond.code yX3_sendEmptyLetters cX3_sendEmptyLetters 5 none, Cond.methodLink RX3 125 Lib.Math.min.name, Cond.static Lib.Math.min.name, Cond.code Lib.Math.min.name Lib.Math.min.code 2 (some .int), Cond.fieldLink RX3 128 "SafeParts$Channels" "promise" "[I", Cond.fieldLink RX3 131 "SafeParts$Channels" "from" "[I", Cond.fieldLink RX3 137 "SafeParts$Channels" "empties" "[I", Cond.methodLink RX3 134 yX3_emptyMayGo, Cond.instanceMethod yX3_emptyMayGo, Cond.selects RX3 yX3_emptyMayGo yX3_emptyMayGo, Cond.code yX3_emptyMayGo cX3_emptyMayGo 2 (some .boolean), Cond.methodLink RX3 140 yX3_channelWaitedFor, Cond.instanceMethod yX3_channelWaitedFor, Cond.selects RX3 yX3_channelWaitedFor yX3_channelWaitedFor, Cond.code yX3_channelWaitedFor cX3_channelWaitedFor 3 (some .int), Cond.methodLink RL 40 yX5_run, Cond.instanceMethod yX5_run, Cond.selects RX5 yX5_run yX5_run, Cond.code yX5_run cX5_run 5 (some .int), Cond.constantLong RX5 129 (40), Cond.methodLink RX5 131 yX5_canRun, Cond.instanceMethod yX5_canRun]
def wsL_law_r16 : List Cond := [Cond.selects RX5 yX5_canRun yX5_canRun, Cond.code yX5_canRun cX5_canRun 1 (some .boolean), Cond.methodLink RX5 125 yX5_isRing, Cond.instanceMethod yX5_isRing, Cond.selects RX5 yX5_isRing yX5_isRing, Cond.code yX5_isRing cX5_isRing 3 (some .boolean), Cond.methodLink RX5 122 yX5_ringOf, Cond.instanceMethod yX5_ringOf, Cond.selects RX5 yX5_ringOf yX5_ringOf, Cond.code yX5_ringOf cX5_ringOf 6 (some .int), Cond.constant RX5 91 (99999999), Cond.methodLink RX5 134 yX5_rounds, Cond.instanceMethod yX5_rounds, Cond.selects RX5 yX5_rounds yX5_rounds, Cond.code yX5_rounds cX5_rounds 3 (some .boolean), Cond.methodLink RX5 108 yX5_may, Cond.instanceMethod yX5_may, Cond.selects RX5 yX5_may yX5_may, Cond.code yX5_may cX5_may 2 (some .boolean), Cond.methodLink RX5 88 yX5_firstOf, Cond.instanceMethod yX5_firstOf, Cond.selects RX5 yX5_firstOf yX5_firstOf, Cond.code yX5_firstOf cX5_firstOf 6 (some .int), Cond.methodLink RX5 85 yX5_isAhead]
def wsL_law_r17 : List Cond := [Cond.instanceMethod yX5_isAhead, Cond.selects RX5 yX5_isAhead yX5_isAhead, Cond.code yX5_isAhead cX5_isAhead 3 (some .boolean), Cond.methodLink RX5 95 yX5_firstTime, Cond.instanceMethod yX5_firstTime, Cond.selects RX5 yX5_firstTime yX5_firstTime, Cond.code yX5_firstTime cX5_firstTime 4 (some .int), Cond.methodLink RX5 98 yX5_safe, Cond.instanceMethod yX5_safe, Cond.selects RX5 yX5_safe yX5_safe, Cond.code yX5_safe cX5_safe 3 (some .int), Cond.methodLink RX5 92 yX5_leastTo, Cond.instanceMethod yX5_leastTo, Cond.selects RX5 yX5_leastTo yX5_leastTo, Cond.code yX5_leastTo cX5_leastTo 4 (some .int), Cond.methodLink RX5 111 yX5_works, Cond.instanceMethod yX5_works, Cond.selects RX5 yX5_works yX5_works, Cond.code yX5_works cX5_works 10 none, Cond.constant RX5 101 (1000003), Cond.methodLink RX5 102 yX5_outOf, Cond.instanceMethod yX5_outOf, Cond.selects RX5 yX5_outOf yX5_outOf, Cond.code yX5_outOf cX5_outOf 5 (some .int)]
def wsL_law_r18 : List Cond := [Cond.methodLink RX5 105 yX5_outAt, Cond.instanceMethod yX5_outAt, Cond.selects RX5 yX5_outAt yX5_outAt, Cond.code yX5_outAt cX5_outAt 7 (some .int), Cond.methodLink RX5 115 yX5_empties, Cond.instanceMethod yX5_empties, Cond.selects RX5 yX5_empties yX5_empties, Cond.code yX5_empties cX5_empties 11 (some .int), Cond.methodLink RL 41 yX4_letGo, Cond.instanceMethod yX4_letGo, Cond.selects RX4 yX4_letGo yX4_letGo, Cond.code yX4_letGo cX4_letGo 1 (some .int), Cond.methodLink RX4 117 yX3_partsThatMay, Cond.instanceMethod yX3_partsThatMay, Cond.selects RX3 yX3_partsThatMay yX3_partsThatMay, Cond.code yX3_partsThatMay cX3_partsThatMay 3 (some .int), Cond.methodLink RX3 86 yX3_mayWork, Cond.methodLink RX4 120 yX4_letEarliestGo, Cond.instanceMethod yX4_letEarliestGo, Cond.selects RX4 yX4_letEarliestGo yX4_letEarliestGo, Cond.code yX4_letEarliestGo cX4_letEarliestGo 4 (some .int), Cond.fieldLink RX4 129 "SafeParts$World" "timesLetGo" "I", Cond.methodLink RX4 132 yX3_leastTime, Cond.instanceMethod yX3_leastTime]
def wsL_law_r19 : List Cond := [Cond.selects RX3 yX3_leastTime yX3_leastTime, Cond.code yX3_leastTime cX3_leastTime 1 (some .int), Cond.methodLink RX3 72 yX3_partOfLeastTime, Cond.instanceMethod yX3_partOfLeastTime, Cond.selects RX3 yX3_partOfLeastTime yX3_partOfLeastTime, Cond.code yX3_partOfLeastTime cX3_partOfLeastTime 3 (some .int), Cond.methodLink RX4 247 yX0_raiseClocks, Cond.instanceMethod yX0_raiseClocks, Cond.selects RX0 yX0_raiseClocks yX0_raiseClocks, Cond.code yX0_raiseClocks cX0_raiseClocks 3 none, Cond.methodLink RX0 43 Lib.Math.max.name, Cond.methodLink RL 45 yX5_letGo, Cond.instanceMethod yX5_letGo, Cond.selects RX5 yX5_letGo yX5_letGo, Cond.code yX5_letGo cX5_letGo 1 (some .int), Cond.methodLink RX5 137 yX5_allMay, Cond.instanceMethod yX5_allMay, Cond.selects RX5 yX5_allMay yX5_allMay, Cond.code yX5_allMay cX5_allMay 3 (some .int), Cond.methodLink RX5 140 yX5_lets, Cond.instanceMethod yX5_lets, Cond.selects RX5 yX5_lets yX5_lets, Cond.code yX5_lets cX5_lets 3 (some .int), Cond.methodLink RX5 118 yX5_leastTime]
def wsL_law_r20 : List Cond := [Cond.instanceMethod yX5_leastTime, Cond.selects RX5 yX5_leastTime yX5_leastTime, Cond.code yX5_leastTime cX5_leastTime 4 (some .int), Cond.methodLink RL 46 yX4_finish, Cond.instanceMethod yX4_finish, Cond.selects RX4 yX4_finish yX4_finish, Cond.code yX4_finish cX4_finish 4 (some .int), Cond.methodLink RL 49 yX5_finish, Cond.instanceMethod yX5_finish, Cond.selects RX5 yX5_finish yX5_finish, Cond.code yX5_finish cX5_finish 5 (some .int), Cond.methodLink RL 50 yX4_told, Cond.instanceMethod yX4_told, Cond.selects RX4 yX4_told yX4_told, Cond.code yX4_told cX4_told 2 (some .int), Cond.fieldLink RX4 135 "SafeParts$Log" "size" "I", Cond.methodLink RL 53 yX5_told, Cond.instanceMethod yX5_told, Cond.selects RX5 yX5_told yX5_told, Cond.code yX5_told cX5_told 2 (some .int), Cond.methodLink RL 54 yX4_part, Cond.instanceMethod yX4_part, Cond.selects RX4 yX4_part yX4_part, Cond.code yX4_part cX4_part 3 (some .int)]
def wsL_law_r21 : List Cond := [Cond.fieldLink RX4 146 "SafeParts$World" "count" "[I", Cond.fieldLink RX4 149 "SafeParts$World" "sum" "[I", Cond.fieldLink RX4 160 "SafeParts$Waiting" "size" "I", Cond.methodLink RX4 152 yX3_safeOf, Cond.methodLink RX4 172 yX3_channelWaitedFor, Cond.methodLink RX4 175 yX0_countFrom, Cond.methodLink RX4 178 yX0_countTo, Cond.instanceMethod yX0_countTo, Cond.selects RX0 yX0_countTo yX0_countTo, Cond.code yX0_countTo cX0_countTo 4 (some .int), Cond.methodLink RL 57 yX5_part, Cond.instanceMethod yX5_part, Cond.selects RX5 yX5_part yX5_part, Cond.code yX5_part cX5_part 3 (some .int), Cond.methodLink RX5 143 yX5_firstValue, Cond.instanceMethod yX5_firstValue, Cond.selects RX5 yX5_firstValue yX5_firstValue, Cond.code yX5_firstValue cX5_firstValue 3 (some .int), Cond.methodLink RX5 146 yX5_waitsBy, Cond.instanceMethod yX5_waitsBy, Cond.selects RX5 yX5_waitsBy yX5_waitsBy, Cond.code yX5_waitsBy cX5_waitsBy 2 (some .int), Cond.methodLink RX5 149 yX5_waysTo, Cond.instanceMethod yX5_waysTo]
def wsL_law_r22 : List Cond := [Cond.selects RX5 yX5_waysTo yX5_waysTo, Cond.code yX5_waysTo cX5_waysTo 4 (some .int), Cond.methodLink RL 58 yX4_channelOf, Cond.instanceMethod yX4_channelOf, Cond.selects RX4 yX4_channelOf yX4_channelOf, Cond.code yX4_channelOf cX4_channelOf 4 (some .int), Cond.fieldLink RX4 181 "SafeParts$Channels" "from" "[I", Cond.fieldLink RX4 184 "SafeParts$Channels" "to" "[I", Cond.fieldLink RX4 187 "SafeParts$Channels" "promise" "[I", Cond.fieldLink RX4 190 "SafeParts$Channels" "delay" "[I", Cond.fieldLink RX4 193 "SafeParts$Channels" "clock" "[I", Cond.fieldLink RX4 196 "SafeParts$Channels" "letters" "[I", Cond.fieldLink RX4 199 "SafeParts$Channels" "empties" "[I", Cond.methodLink RL 61 yX5_channelOf, Cond.instanceMethod yX5_channelOf, Cond.selects RX5 yX5_channelOf yX5_channelOf, Cond.code yX5_channelOf cX5_channelOf 3 (some .int), Cond.methodLink RX5 152 yX5_isChannel, Cond.instanceMethod yX5_isChannel, Cond.selects RX5 yX5_isChannel yX5_isChannel, Cond.code yX5_isChannel cX5_isChannel 2 (some .boolean), Cond.methodLink RL 62 yX4_between, Cond.instanceMethod yX4_between, Cond.selects RX4 yX4_between yX4_between]
def wsL_law_r23 : List Cond := [Cond.code yX4_between cX4_between 3 (some .int), Cond.methodLink RL 65 yX5_between, Cond.instanceMethod yX5_between, Cond.selects RX5 yX5_between yX5_between, Cond.code yX5_between cX5_between 3 (some .int), Cond.methodLink RL 66 yX4_record, Cond.instanceMethod yX4_record, Cond.selects RX4 yX4_record yX4_record, Cond.code yX4_record cX4_record 3 (some .int), Cond.fieldLink RX4 202 "SafeParts$Log" "part" "[I", Cond.fieldLink RX4 205 "SafeParts$Log" "time" "[I", Cond.fieldLink RX4 208 "SafeParts$Log" "value" "[I", Cond.fieldLink RX4 211 "SafeParts$Log" "round" "[I", Cond.methodLink RL 69 yX5_record, Cond.instanceMethod yX5_record, Cond.selects RX5 yX5_record yX5_record, Cond.code yX5_record cX5_record 3 (some .int), Cond.constantLong RX5 155 (3), Cond.methodLink RL 70 yX4_ring, Cond.instanceMethod yX4_ring, Cond.selects RX4 yX4_ring yX4_ring, Cond.code yX4_ring cX4_ring 3 (some .int), Cond.constant RX4 217 (99999999), Cond.methodLink RX4 214 yX4_leastPromisesRound]
def wsL_law_r24 : List Cond := [Cond.instanceMethod yX4_leastPromisesRound, Cond.selects RX4 yX4_leastPromisesRound yX4_leastPromisesRound, Cond.code yX4_leastPromisesRound cX4_leastPromisesRound 8 (some .int), Cond.methodLink RX4 253 Lib.Math.min.name, Cond.methodLink RL 73 yX5_ring, Cond.instanceMethod yX5_ring, Cond.selects RX5 yX5_ring yX5_ring, Cond.code yX5_ring cX5_ring 2 (some .int), Cond.methodLink RL 74 yX4_waits, Cond.instanceMethod yX4_waits, Cond.selects RX4 yX4_waits yX4_waits, Cond.code yX4_waits cX4_waits 6 (some .int), Cond.methodLink RL 77 yX5_waits, Cond.instanceMethod yX5_waits, Cond.selects RX5 yX5_waits yX5_waits, Cond.code yX5_waits cX5_waits 6 (some .int), Cond.methodLink RX5 157 yX5_has, Cond.static yX5_has, Cond.code yX5_has cX5_has 2 (some .boolean), Cond.methodLink RL 78 yX4_inOrder, Cond.instanceMethod yX4_inOrder, Cond.selects RX4 yX4_inOrder yX4_inOrder, Cond.code yX4_inOrder cX4_inOrder 4 (some .int), Cond.methodLink RX4 218 yX3_copyFrom]
def wsL_law_r25 : List Cond := [Cond.instanceMethod yX3_copyFrom, Cond.selects RX3 yX3_copyFrom yX3_copyFrom, Cond.code yX3_copyFrom cX3_copyFrom 3 none, Cond.methodLink RX3 61 yX0_copyFrom, Cond.instanceMethod yX0_copyFrom, Cond.selects RX0 yX0_copyFrom yX0_copyFrom, Cond.code yX0_copyFrom cX0_copyFrom 2 none, Cond.methodLink RX0 37 arraycopyName, Cond.methodLink RX3 65 yX2_copyFrom, Cond.instanceMethod yX2_copyFrom, Cond.selects RX2 yX2_copyFrom yX2_copyFrom, Cond.code yX2_copyFrom cX2_copyFrom 2 none, Cond.methodLink RX4 222 yX3_partOfLeastTime, Cond.methodLink RL 81 yX5_inOrder, Cond.instanceMethod yX5_inOrder, Cond.selects RX5 yX5_inOrder yX5_inOrder, Cond.code yX5_inOrder cX5_inOrder 8 (some .int), Cond.methodLink RX5 160 yX5_copy, Cond.instanceMethod yX5_copy, Cond.selects RX5 yX5_copy yX5_copy, Cond.code yX5_copy cX5_copy 4 none, Cond.methodLink RL 82 yX4_keep, Cond.instanceMethod yX4_keep, Cond.selects RX4 yX4_keep yX4_keep]
def wsL_law_r26 : List Cond := [Cond.code yX4_keep cX4_keep 2 (some .int), Cond.methodLink RX4 228 yX4_isNoImage, Cond.static yX4_isNoImage, Cond.code yX4_isNoImage cX4_isNoImage 1 (some .boolean), Cond.methodLink RL 85 yX5_keep, Cond.instanceMethod yX5_keep, Cond.selects RX5 yX5_keep yX5_keep, Cond.code yX5_keep cX5_keep 2 (some .int), Cond.methodLink RL 86 yX4_goBack, Cond.instanceMethod yX4_goBack, Cond.selects RX4 yX4_goBack yX4_goBack, Cond.code yX4_goBack cX4_goBack 2 (some .int), Cond.methodLink RL 89 yX5_goBack, Cond.instanceMethod yX5_goBack, Cond.selects RX5 yX5_goBack yX5_goBack, Cond.code yX5_goBack cX5_goBack 2 (some .int)]
def wsL_law : List Cond := (wsL_law_r1 ++ (wsL_law_r2 ++ (wsL_law_r3 ++ (wsL_law_r4 ++ (wsL_law_r5 ++ (wsL_law_r6 ++ (wsL_law_r7 ++ (wsL_law_r8 ++ (wsL_law_r9 ++ (wsL_law_r10 ++ (wsL_law_r11 ++ (wsL_law_r12 ++ (wsL_law_r13 ++ (wsL_law_r14 ++ (wsL_law_r15 ++ (wsL_law_r16 ++ (wsL_law_r17 ++ (wsL_law_r18 ++ (wsL_law_r19 ++ (wsL_law_r20 ++ (wsL_law_r21 ++ (wsL_law_r22 ++ (wsL_law_r23 ++ (wsL_law_r24 ++ (wsL_law_r25 ++ wsL_law_r26))))))))))))))))))))))))) ++ wsX40 ++ wsX50 ++ wsX30 ++ wsX10 ++ wsX00 ++ wsX20 ++ ([] : List Cond)
theorem inlX0 : ∀ w ∈ wsX00, w ∈ wsL_law := fun _ h => List.mem_append_left _ (List.mem_append_left _ (List.mem_append_right _ h))
theorem inlX1 : ∀ w ∈ wsX10, w ∈ wsL_law := fun _ h => List.mem_append_left _ (List.mem_append_left _ (List.mem_append_left _ (List.mem_append_right _ h)))
theorem inlX2 : ∀ w ∈ wsX20, w ∈ wsL_law := fun _ h => List.mem_append_left _ (List.mem_append_right _ h)
theorem inlX3 : ∀ w ∈ wsX30, w ∈ wsL_law := fun _ h => List.mem_append_left _ (List.mem_append_left _ (List.mem_append_left _ (List.mem_append_left _ (List.mem_append_right _ h))))
theorem inlX4 : ∀ w ∈ wsX40, w ∈ wsL_law := fun _ h => List.mem_append_left _ (List.mem_append_left _ (List.mem_append_left _ (List.mem_append_left _ (List.mem_append_left _ (List.mem_append_left _ (List.mem_append_right _ h))))))
theorem inlX5 : ∀ w ∈ wsX50, w ∈ wsL_law := fun _ h => List.mem_append_left _ (List.mem_append_left _ (List.mem_append_left _ (List.mem_append_left _ (List.mem_append_left _ (List.mem_append_right _ h)))))
abbrev vwCl : List vw_C := [(RX0, TX0, 8), (RX1, TX1, 5), (RX2, TX2, 4), (RX3, TX3, 12), (RX4, TX4, 6), (RX5, TX5, 6)]
end
section
theorem dX0_init_0 : decode cX0_init 0 = .ok (.aload_n 0, 1) := by decide +kernel
theorem dX0_init_1 : decode cX0_init 1 = .ok (.invokespecial 3, 3) := by decide +kernel
theorem dX0_init_4 : decode cX0_init 4 = .ok (.aload_n 0, 1) := by decide +kernel
theorem dX0_init_5 : decode cX0_init 5 = .ok (.bipush 12, 2) := by decide +kernel
theorem dX0_init_7 : decode cX0_init 7 = .ok (.newarray .int, 2) := by decide +kernel
theorem dX0_init_9 : decode cX0_init 9 = .ok (.putfield 9, 3) := by decide +kernel
theorem dX0_init_12 : decode cX0_init 12 = .ok (.aload_n 0, 1) := by decide +kernel
theorem dX0_init_13 : decode cX0_init 13 = .ok (.bipush 12, 2) := by decide +kernel
theorem dX0_init_15 : decode cX0_init 15 = .ok (.newarray .int, 2) := by decide +kernel
theorem dX0_init_17 : decode cX0_init 17 = .ok (.putfield 15, 3) := by decide +kernel
theorem dX0_init_20 : decode cX0_init 20 = .ok (.aload_n 0, 1) := by decide +kernel
theorem dX0_init_21 : decode cX0_init 21 = .ok (.bipush 12, 2) := by decide +kernel
theorem dX0_init_23 : decode cX0_init 23 = .ok (.newarray .int, 2) := by decide +kernel
theorem dX0_init_25 : decode cX0_init 25 = .ok (.putfield 18, 3) := by decide +kernel
theorem dX0_init_28 : decode cX0_init 28 = .ok (.aload_n 0, 1) := by decide +kernel
theorem dX0_init_29 : decode cX0_init 29 = .ok (.bipush 12, 2) := by decide +kernel
theorem dX0_init_31 : decode cX0_init 31 = .ok (.newarray .int, 2) := by decide +kernel
theorem dX0_init_33 : decode cX0_init 33 = .ok (.putfield 21, 3) := by decide +kernel
theorem dX0_init_36 : decode cX0_init 36 = .ok (.aload_n 0, 1) := by decide +kernel
theorem dX0_init_37 : decode cX0_init 37 = .ok (.bipush 12, 2) := by decide +kernel
theorem dX0_init_39 : decode cX0_init 39 = .ok (.newarray .int, 2) := by decide +kernel
theorem dX0_init_41 : decode cX0_init 41 = .ok (.putfield 24, 3) := by decide +kernel
theorem dX0_init_44 : decode cX0_init 44 = .ok (.aload_n 0, 1) := by decide +kernel
theorem dX0_init_45 : decode cX0_init 45 = .ok (.bipush 12, 2) := by decide +kernel
theorem dX0_init_47 : decode cX0_init 47 = .ok (.newarray .int, 2) := by decide +kernel
theorem dX0_init_49 : decode cX0_init 49 = .ok (.putfield 27, 3) := by decide +kernel
theorem dX0_init_52 : decode cX0_init 52 = .ok (.aload_n 0, 1) := by decide +kernel
theorem dX0_init_53 : decode cX0_init 53 = .ok (.bipush 12, 2) := by decide +kernel
theorem dX0_init_55 : decode cX0_init 55 = .ok (.newarray .int, 2) := by decide +kernel
theorem dX0_init_57 : decode cX0_init 57 = .ok (.putfield 30, 3) := by decide +kernel
theorem dX0_init_60 : decode cX0_init 60 = .ok (.return_, 1) := by decide +kernel
theorem dX0_add_0 : decode cX0_add 0 = .ok (.aload_n 0, 1) := by decide +kernel
theorem dX0_add_1 : decode cX0_add 1 = .ok (.getfield 33, 3) := by decide +kernel
theorem dX0_add_4 : decode cX0_add 4 = .ok (.bipush 12, 2) := by decide +kernel
theorem dX0_add_6 : decode cX0_add 6 = .ok (.if_icmp .lt 5, 3) := by decide +kernel
theorem dX0_add_9 : decode cX0_add 9 = .ok (.iconst (-1), 1) := by decide +kernel
theorem dX0_add_10 : decode cX0_add 10 = .ok (.ireturn, 1) := by decide +kernel
theorem dX0_add_11 : decode cX0_add 11 = .ok (.aload_n 0, 1) := by decide +kernel
theorem dX0_add_12 : decode cX0_add 12 = .ok (.getfield 33, 3) := by decide +kernel
theorem dX0_add_15 : decode cX0_add 15 = .ok (.istore 5, 2) := by decide +kernel
theorem dX0_add_17 : decode cX0_add 17 = .ok (.aload_n 0, 1) := by decide +kernel
theorem dX0_add_18 : decode cX0_add 18 = .ok (.getfield 9, 3) := by decide +kernel
theorem dX0_add_21 : decode cX0_add 21 = .ok (.iload 5, 2) := by decide +kernel
theorem dX0_add_23 : decode cX0_add 23 = .ok (.iload_n 1, 1) := by decide +kernel
theorem dX0_add_24 : decode cX0_add 24 = .ok (.iastore, 1) := by decide +kernel
theorem dX0_add_25 : decode cX0_add 25 = .ok (.aload_n 0, 1) := by decide +kernel
theorem dX0_add_26 : decode cX0_add 26 = .ok (.getfield 15, 3) := by decide +kernel
theorem dX0_add_29 : decode cX0_add 29 = .ok (.iload 5, 2) := by decide +kernel
theorem dX0_add_31 : decode cX0_add 31 = .ok (.iload_n 2, 1) := by decide +kernel
theorem dX0_add_32 : decode cX0_add 32 = .ok (.iastore, 1) := by decide +kernel
theorem dX0_add_33 : decode cX0_add 33 = .ok (.aload_n 0, 1) := by decide +kernel
theorem dX0_add_34 : decode cX0_add 34 = .ok (.getfield 18, 3) := by decide +kernel
theorem dX0_add_37 : decode cX0_add 37 = .ok (.iload 5, 2) := by decide +kernel
theorem dX0_add_39 : decode cX0_add 39 = .ok (.iload_n 3, 1) := by decide +kernel
theorem dX0_add_40 : decode cX0_add 40 = .ok (.iastore, 1) := by decide +kernel
theorem dX0_add_41 : decode cX0_add 41 = .ok (.aload_n 0, 1) := by decide +kernel
theorem dX0_add_42 : decode cX0_add 42 = .ok (.getfield 21, 3) := by decide +kernel
theorem dX0_add_45 : decode cX0_add 45 = .ok (.iload 5, 2) := by decide +kernel
theorem dX0_add_47 : decode cX0_add 47 = .ok (.iload 4, 2) := by decide +kernel
theorem dX0_add_49 : decode cX0_add 49 = .ok (.iastore, 1) := by decide +kernel
theorem dX0_add_50 : decode cX0_add 50 = .ok (.aload_n 0, 1) := by decide +kernel
theorem dX0_add_51 : decode cX0_add 51 = .ok (.getfield 24, 3) := by decide +kernel
theorem dX0_add_54 : decode cX0_add 54 = .ok (.iload 5, 2) := by decide +kernel
theorem dX0_add_56 : decode cX0_add 56 = .ok (.iconst 0, 1) := by decide +kernel
theorem dX0_add_57 : decode cX0_add 57 = .ok (.iastore, 1) := by decide +kernel
theorem dX0_add_58 : decode cX0_add 58 = .ok (.aload_n 0, 1) := by decide +kernel
theorem dX0_add_59 : decode cX0_add 59 = .ok (.getfield 27, 3) := by decide +kernel
theorem dX0_add_62 : decode cX0_add 62 = .ok (.iload 5, 2) := by decide +kernel
theorem dX0_add_64 : decode cX0_add 64 = .ok (.iconst 0, 1) := by decide +kernel
theorem dX0_add_65 : decode cX0_add 65 = .ok (.iastore, 1) := by decide +kernel
theorem dX0_add_66 : decode cX0_add 66 = .ok (.aload_n 0, 1) := by decide +kernel
theorem dX0_add_67 : decode cX0_add 67 = .ok (.getfield 30, 3) := by decide +kernel
theorem dX0_add_70 : decode cX0_add 70 = .ok (.iload 5, 2) := by decide +kernel
theorem dX0_add_72 : decode cX0_add 72 = .ok (.iconst 0, 1) := by decide +kernel
theorem dX0_add_73 : decode cX0_add 73 = .ok (.iastore, 1) := by decide +kernel
theorem dX0_add_74 : decode cX0_add 74 = .ok (.aload_n 0, 1) := by decide +kernel
theorem dX0_add_75 : decode cX0_add 75 = .ok (.dup, 1) := by decide +kernel
theorem dX0_add_76 : decode cX0_add 76 = .ok (.getfield 33, 3) := by decide +kernel
theorem dX0_add_79 : decode cX0_add 79 = .ok (.iconst 1, 1) := by decide +kernel
theorem dX0_add_80 : decode cX0_add 80 = .ok (.iadd, 1) := by decide +kernel
theorem dX0_add_81 : decode cX0_add 81 = .ok (.putfield 33, 3) := by decide +kernel
theorem dX0_add_84 : decode cX0_add 84 = .ok (.iload 5, 2) := by decide +kernel
theorem dX0_add_86 : decode cX0_add 86 = .ok (.ireturn, 1) := by decide +kernel
theorem dX0_copyFrom_0 : decode cX0_copyFrom 0 = .ok (.aload_n 1, 1) := by decide +kernel
theorem dX0_copyFrom_1 : decode cX0_copyFrom 1 = .ok (.getfield 9, 3) := by decide +kernel
theorem dX0_copyFrom_4 : decode cX0_copyFrom 4 = .ok (.iconst 0, 1) := by decide +kernel
theorem dX0_copyFrom_5 : decode cX0_copyFrom 5 = .ok (.aload_n 0, 1) := by decide +kernel
theorem dX0_copyFrom_6 : decode cX0_copyFrom 6 = .ok (.getfield 9, 3) := by decide +kernel
theorem dX0_copyFrom_9 : decode cX0_copyFrom 9 = .ok (.iconst 0, 1) := by decide +kernel
theorem dX0_copyFrom_10 : decode cX0_copyFrom 10 = .ok (.bipush 12, 2) := by decide +kernel
theorem dX0_copyFrom_12 : decode cX0_copyFrom 12 = .ok (.invokestatic 37, 3) := by decide +kernel
theorem dX0_copyFrom_15 : decode cX0_copyFrom 15 = .ok (.aload_n 1, 1) := by decide +kernel
theorem dX0_copyFrom_16 : decode cX0_copyFrom 16 = .ok (.getfield 15, 3) := by decide +kernel
theorem dX0_copyFrom_19 : decode cX0_copyFrom 19 = .ok (.iconst 0, 1) := by decide +kernel
theorem dX0_copyFrom_20 : decode cX0_copyFrom 20 = .ok (.aload_n 0, 1) := by decide +kernel
theorem dX0_copyFrom_21 : decode cX0_copyFrom 21 = .ok (.getfield 15, 3) := by decide +kernel
theorem dX0_copyFrom_24 : decode cX0_copyFrom 24 = .ok (.iconst 0, 1) := by decide +kernel
theorem dX0_copyFrom_25 : decode cX0_copyFrom 25 = .ok (.bipush 12, 2) := by decide +kernel
theorem dX0_copyFrom_27 : decode cX0_copyFrom 27 = .ok (.invokestatic 37, 3) := by decide +kernel
theorem dX0_copyFrom_30 : decode cX0_copyFrom 30 = .ok (.aload_n 1, 1) := by decide +kernel
theorem dX0_copyFrom_31 : decode cX0_copyFrom 31 = .ok (.getfield 18, 3) := by decide +kernel
theorem dX0_copyFrom_34 : decode cX0_copyFrom 34 = .ok (.iconst 0, 1) := by decide +kernel
theorem dX0_copyFrom_35 : decode cX0_copyFrom 35 = .ok (.aload_n 0, 1) := by decide +kernel
theorem dX0_copyFrom_36 : decode cX0_copyFrom 36 = .ok (.getfield 18, 3) := by decide +kernel
theorem dX0_copyFrom_39 : decode cX0_copyFrom 39 = .ok (.iconst 0, 1) := by decide +kernel
theorem dX0_copyFrom_40 : decode cX0_copyFrom 40 = .ok (.bipush 12, 2) := by decide +kernel
theorem dX0_copyFrom_42 : decode cX0_copyFrom 42 = .ok (.invokestatic 37, 3) := by decide +kernel
theorem dX0_copyFrom_45 : decode cX0_copyFrom 45 = .ok (.aload_n 1, 1) := by decide +kernel
theorem dX0_copyFrom_46 : decode cX0_copyFrom 46 = .ok (.getfield 21, 3) := by decide +kernel
theorem dX0_copyFrom_49 : decode cX0_copyFrom 49 = .ok (.iconst 0, 1) := by decide +kernel
theorem dX0_copyFrom_50 : decode cX0_copyFrom 50 = .ok (.aload_n 0, 1) := by decide +kernel
theorem dX0_copyFrom_51 : decode cX0_copyFrom 51 = .ok (.getfield 21, 3) := by decide +kernel
theorem dX0_copyFrom_54 : decode cX0_copyFrom 54 = .ok (.iconst 0, 1) := by decide +kernel
theorem dX0_copyFrom_55 : decode cX0_copyFrom 55 = .ok (.bipush 12, 2) := by decide +kernel
theorem dX0_copyFrom_57 : decode cX0_copyFrom 57 = .ok (.invokestatic 37, 3) := by decide +kernel
theorem dX0_copyFrom_60 : decode cX0_copyFrom 60 = .ok (.aload_n 1, 1) := by decide +kernel
theorem dX0_copyFrom_61 : decode cX0_copyFrom 61 = .ok (.getfield 24, 3) := by decide +kernel
theorem dX0_copyFrom_64 : decode cX0_copyFrom 64 = .ok (.iconst 0, 1) := by decide +kernel
theorem dX0_copyFrom_65 : decode cX0_copyFrom 65 = .ok (.aload_n 0, 1) := by decide +kernel
theorem dX0_copyFrom_66 : decode cX0_copyFrom 66 = .ok (.getfield 24, 3) := by decide +kernel
theorem dX0_copyFrom_69 : decode cX0_copyFrom 69 = .ok (.iconst 0, 1) := by decide +kernel
theorem dX0_copyFrom_70 : decode cX0_copyFrom 70 = .ok (.bipush 12, 2) := by decide +kernel
theorem dX0_copyFrom_72 : decode cX0_copyFrom 72 = .ok (.invokestatic 37, 3) := by decide +kernel
theorem dX0_copyFrom_75 : decode cX0_copyFrom 75 = .ok (.aload_n 1, 1) := by decide +kernel
theorem dX0_copyFrom_76 : decode cX0_copyFrom 76 = .ok (.getfield 27, 3) := by decide +kernel
theorem dX0_copyFrom_79 : decode cX0_copyFrom 79 = .ok (.iconst 0, 1) := by decide +kernel
theorem dX0_copyFrom_80 : decode cX0_copyFrom 80 = .ok (.aload_n 0, 1) := by decide +kernel
theorem dX0_copyFrom_81 : decode cX0_copyFrom 81 = .ok (.getfield 27, 3) := by decide +kernel
theorem dX0_copyFrom_84 : decode cX0_copyFrom 84 = .ok (.iconst 0, 1) := by decide +kernel
theorem dX0_copyFrom_85 : decode cX0_copyFrom 85 = .ok (.bipush 12, 2) := by decide +kernel
theorem dX0_copyFrom_87 : decode cX0_copyFrom 87 = .ok (.invokestatic 37, 3) := by decide +kernel
theorem dX0_copyFrom_90 : decode cX0_copyFrom 90 = .ok (.aload_n 1, 1) := by decide +kernel
theorem dX0_copyFrom_91 : decode cX0_copyFrom 91 = .ok (.getfield 30, 3) := by decide +kernel
theorem dX0_copyFrom_94 : decode cX0_copyFrom 94 = .ok (.iconst 0, 1) := by decide +kernel
theorem dX0_copyFrom_95 : decode cX0_copyFrom 95 = .ok (.aload_n 0, 1) := by decide +kernel
theorem dX0_copyFrom_96 : decode cX0_copyFrom 96 = .ok (.getfield 30, 3) := by decide +kernel
theorem dX0_copyFrom_99 : decode cX0_copyFrom 99 = .ok (.iconst 0, 1) := by decide +kernel
theorem dX0_copyFrom_100 : decode cX0_copyFrom 100 = .ok (.bipush 12, 2) := by decide +kernel
theorem dX0_copyFrom_102 : decode cX0_copyFrom 102 = .ok (.invokestatic 37, 3) := by decide +kernel
theorem dX0_copyFrom_105 : decode cX0_copyFrom 105 = .ok (.aload_n 0, 1) := by decide +kernel
theorem dX0_copyFrom_106 : decode cX0_copyFrom 106 = .ok (.aload_n 1, 1) := by decide +kernel
theorem dX0_copyFrom_107 : decode cX0_copyFrom 107 = .ok (.getfield 33, 3) := by decide +kernel
theorem dX0_copyFrom_110 : decode cX0_copyFrom 110 = .ok (.putfield 33, 3) := by decide +kernel
theorem dX0_copyFrom_113 : decode cX0_copyFrom 113 = .ok (.return_, 1) := by decide +kernel
theorem dX0_find_0 : decode cX0_find 0 = .ok (.iconst 0, 1) := by decide +kernel
theorem dX0_find_1 : decode cX0_find 1 = .ok (.istore_n 3, 1) := by decide +kernel
theorem dX0_find_2 : decode cX0_find 2 = .ok (.iload_n 3, 1) := by decide +kernel
theorem dX0_find_3 : decode cX0_find 3 = .ok (.aload_n 0, 1) := by decide +kernel
theorem dX0_find_4 : decode cX0_find 4 = .ok (.getfield 33, 3) := by decide +kernel
theorem dX0_find_7 : decode cX0_find 7 = .ok (.if_icmp .ge 31, 3) := by decide +kernel
theorem dX0_find_10 : decode cX0_find 10 = .ok (.aload_n 0, 1) := by decide +kernel
theorem dX0_find_11 : decode cX0_find 11 = .ok (.getfield 9, 3) := by decide +kernel
theorem dX0_find_14 : decode cX0_find 14 = .ok (.iload_n 3, 1) := by decide +kernel
theorem dX0_find_15 : decode cX0_find 15 = .ok (.iaload, 1) := by decide +kernel
theorem dX0_find_16 : decode cX0_find 16 = .ok (.iload_n 1, 1) := by decide +kernel
theorem dX0_find_17 : decode cX0_find 17 = .ok (.if_icmp .ne 15, 3) := by decide +kernel
theorem dX0_find_20 : decode cX0_find 20 = .ok (.aload_n 0, 1) := by decide +kernel
theorem dX0_find_21 : decode cX0_find 21 = .ok (.getfield 15, 3) := by decide +kernel
theorem dX0_find_24 : decode cX0_find 24 = .ok (.iload_n 3, 1) := by decide +kernel
theorem dX0_find_25 : decode cX0_find 25 = .ok (.iaload, 1) := by decide +kernel
theorem dX0_find_26 : decode cX0_find 26 = .ok (.iload_n 2, 1) := by decide +kernel
theorem dX0_find_27 : decode cX0_find 27 = .ok (.if_icmp .ne 5, 3) := by decide +kernel
theorem dX0_find_30 : decode cX0_find 30 = .ok (.iload_n 3, 1) := by decide +kernel
theorem dX0_find_31 : decode cX0_find 31 = .ok (.ireturn, 1) := by decide +kernel
theorem dX0_find_32 : decode cX0_find 32 = .ok (.iinc 3 1, 3) := by decide +kernel
theorem dX0_find_35 : decode cX0_find 35 = .ok (.goto (-33), 3) := by decide +kernel
theorem dX0_find_38 : decode cX0_find 38 = .ok (.iconst (-1), 1) := by decide +kernel
theorem dX0_find_39 : decode cX0_find 39 = .ok (.ireturn, 1) := by decide +kernel
theorem dX0_countFrom_0 : decode cX0_countFrom 0 = .ok (.iconst 0, 1) := by decide +kernel
theorem dX0_countFrom_1 : decode cX0_countFrom 1 = .ok (.istore_n 2, 1) := by decide +kernel
theorem dX0_countFrom_2 : decode cX0_countFrom 2 = .ok (.iconst 0, 1) := by decide +kernel
theorem dX0_countFrom_3 : decode cX0_countFrom 3 = .ok (.istore_n 3, 1) := by decide +kernel
theorem dX0_countFrom_4 : decode cX0_countFrom 4 = .ok (.iload_n 3, 1) := by decide +kernel
theorem dX0_countFrom_5 : decode cX0_countFrom 5 = .ok (.aload_n 0, 1) := by decide +kernel
theorem dX0_countFrom_6 : decode cX0_countFrom 6 = .ok (.getfield 33, 3) := by decide +kernel
theorem dX0_countFrom_9 : decode cX0_countFrom 9 = .ok (.if_icmp .ge 22, 3) := by decide +kernel
theorem dX0_countFrom_12 : decode cX0_countFrom 12 = .ok (.aload_n 0, 1) := by decide +kernel
theorem dX0_countFrom_13 : decode cX0_countFrom 13 = .ok (.getfield 9, 3) := by decide +kernel
theorem dX0_countFrom_16 : decode cX0_countFrom 16 = .ok (.iload_n 3, 1) := by decide +kernel
theorem dX0_countFrom_17 : decode cX0_countFrom 17 = .ok (.iaload, 1) := by decide +kernel
theorem dX0_countFrom_18 : decode cX0_countFrom 18 = .ok (.iload_n 1, 1) := by decide +kernel
theorem dX0_countFrom_19 : decode cX0_countFrom 19 = .ok (.if_icmp .ne 6, 3) := by decide +kernel
theorem dX0_countFrom_22 : decode cX0_countFrom 22 = .ok (.iinc 2 1, 3) := by decide +kernel
theorem dX0_countFrom_25 : decode cX0_countFrom 25 = .ok (.iinc 3 1, 3) := by decide +kernel
theorem dX0_countFrom_28 : decode cX0_countFrom 28 = .ok (.goto (-24), 3) := by decide +kernel
theorem dX0_countFrom_31 : decode cX0_countFrom 31 = .ok (.iload_n 2, 1) := by decide +kernel
theorem dX0_countFrom_32 : decode cX0_countFrom 32 = .ok (.ireturn, 1) := by decide +kernel
theorem dX0_countTo_0 : decode cX0_countTo 0 = .ok (.iconst 0, 1) := by decide +kernel
theorem dX0_countTo_1 : decode cX0_countTo 1 = .ok (.istore_n 2, 1) := by decide +kernel
theorem dX0_countTo_2 : decode cX0_countTo 2 = .ok (.iconst 0, 1) := by decide +kernel
theorem dX0_countTo_3 : decode cX0_countTo 3 = .ok (.istore_n 3, 1) := by decide +kernel
theorem dX0_countTo_4 : decode cX0_countTo 4 = .ok (.iload_n 3, 1) := by decide +kernel
theorem dX0_countTo_5 : decode cX0_countTo 5 = .ok (.aload_n 0, 1) := by decide +kernel
theorem dX0_countTo_6 : decode cX0_countTo 6 = .ok (.getfield 33, 3) := by decide +kernel
theorem dX0_countTo_9 : decode cX0_countTo 9 = .ok (.if_icmp .ge 22, 3) := by decide +kernel
theorem dX0_countTo_12 : decode cX0_countTo 12 = .ok (.aload_n 0, 1) := by decide +kernel
theorem dX0_countTo_13 : decode cX0_countTo 13 = .ok (.getfield 15, 3) := by decide +kernel
theorem dX0_countTo_16 : decode cX0_countTo 16 = .ok (.iload_n 3, 1) := by decide +kernel
theorem dX0_countTo_17 : decode cX0_countTo 17 = .ok (.iaload, 1) := by decide +kernel
theorem dX0_countTo_18 : decode cX0_countTo 18 = .ok (.iload_n 1, 1) := by decide +kernel
theorem dX0_countTo_19 : decode cX0_countTo 19 = .ok (.if_icmp .ne 6, 3) := by decide +kernel
theorem dX0_countTo_22 : decode cX0_countTo 22 = .ok (.iinc 2 1, 3) := by decide +kernel
theorem dX0_countTo_25 : decode cX0_countTo 25 = .ok (.iinc 3 1, 3) := by decide +kernel
theorem dX0_countTo_28 : decode cX0_countTo 28 = .ok (.goto (-24), 3) := by decide +kernel
theorem dX0_countTo_31 : decode cX0_countTo 31 = .ok (.iload_n 2, 1) := by decide +kernel
theorem dX0_countTo_32 : decode cX0_countTo 32 = .ok (.ireturn, 1) := by decide +kernel
theorem dX0_atPlaceFrom_0 : decode cX0_atPlaceFrom 0 = .ok (.iconst 0, 1) := by decide +kernel
theorem dX0_atPlaceFrom_1 : decode cX0_atPlaceFrom 1 = .ok (.istore_n 3, 1) := by decide +kernel
theorem dX0_atPlaceFrom_2 : decode cX0_atPlaceFrom 2 = .ok (.iconst 0, 1) := by decide +kernel
theorem dX0_atPlaceFrom_3 : decode cX0_atPlaceFrom 3 = .ok (.istore 4, 2) := by decide +kernel
theorem dX0_atPlaceFrom_5 : decode cX0_atPlaceFrom 5 = .ok (.iload 4, 2) := by decide +kernel
theorem dX0_atPlaceFrom_7 : decode cX0_atPlaceFrom 7 = .ok (.aload_n 0, 1) := by decide +kernel
theorem dX0_atPlaceFrom_8 : decode cX0_atPlaceFrom 8 = .ok (.getfield 33, 3) := by decide +kernel
theorem dX0_atPlaceFrom_11 : decode cX0_atPlaceFrom 11 = .ok (.if_icmp .ge 31, 3) := by decide +kernel
theorem dX0_atPlaceFrom_14 : decode cX0_atPlaceFrom 14 = .ok (.aload_n 0, 1) := by decide +kernel
theorem dX0_atPlaceFrom_15 : decode cX0_atPlaceFrom 15 = .ok (.getfield 9, 3) := by decide +kernel
theorem dX0_atPlaceFrom_18 : decode cX0_atPlaceFrom 18 = .ok (.iload 4, 2) := by decide +kernel
theorem dX0_atPlaceFrom_20 : decode cX0_atPlaceFrom 20 = .ok (.iaload, 1) := by decide +kernel
theorem dX0_atPlaceFrom_21 : decode cX0_atPlaceFrom 21 = .ok (.iload_n 1, 1) := by decide +kernel
theorem dX0_atPlaceFrom_22 : decode cX0_atPlaceFrom 22 = .ok (.if_icmp .ne 14, 3) := by decide +kernel
theorem dX0_atPlaceFrom_25 : decode cX0_atPlaceFrom 25 = .ok (.iload_n 3, 1) := by decide +kernel
theorem dX0_atPlaceFrom_26 : decode cX0_atPlaceFrom 26 = .ok (.iload_n 2, 1) := by decide +kernel
theorem dX0_atPlaceFrom_27 : decode cX0_atPlaceFrom 27 = .ok (.if_icmp .ne 6, 3) := by decide +kernel
theorem dX0_atPlaceFrom_30 : decode cX0_atPlaceFrom 30 = .ok (.iload 4, 2) := by decide +kernel
theorem dX0_atPlaceFrom_32 : decode cX0_atPlaceFrom 32 = .ok (.ireturn, 1) := by decide +kernel
theorem dX0_atPlaceFrom_33 : decode cX0_atPlaceFrom 33 = .ok (.iinc 3 1, 3) := by decide +kernel
theorem dX0_atPlaceFrom_36 : decode cX0_atPlaceFrom 36 = .ok (.iinc 4 1, 3) := by decide +kernel
theorem dX0_atPlaceFrom_39 : decode cX0_atPlaceFrom 39 = .ok (.goto (-34), 3) := by decide +kernel
theorem dX0_atPlaceFrom_42 : decode cX0_atPlaceFrom 42 = .ok (.iconst (-1), 1) := by decide +kernel
theorem dX0_atPlaceFrom_43 : decode cX0_atPlaceFrom 43 = .ok (.ireturn, 1) := by decide +kernel
theorem dX0_ofLeastClockTo_0 : decode cX0_ofLeastClockTo 0 = .ok (.iconst (-1), 1) := by decide +kernel
theorem dX0_ofLeastClockTo_1 : decode cX0_ofLeastClockTo 1 = .ok (.istore_n 2, 1) := by decide +kernel
theorem dX0_ofLeastClockTo_2 : decode cX0_ofLeastClockTo 2 = .ok (.iconst 0, 1) := by decide +kernel
theorem dX0_ofLeastClockTo_3 : decode cX0_ofLeastClockTo 3 = .ok (.istore_n 3, 1) := by decide +kernel
theorem dX0_ofLeastClockTo_4 : decode cX0_ofLeastClockTo 4 = .ok (.iload_n 3, 1) := by decide +kernel
theorem dX0_ofLeastClockTo_5 : decode cX0_ofLeastClockTo 5 = .ok (.aload_n 0, 1) := by decide +kernel
theorem dX0_ofLeastClockTo_6 : decode cX0_ofLeastClockTo 6 = .ok (.getfield 33, 3) := by decide +kernel
theorem dX0_ofLeastClockTo_9 : decode cX0_ofLeastClockTo 9 = .ok (.if_icmp .ge 41, 3) := by decide +kernel
theorem dX0_ofLeastClockTo_12 : decode cX0_ofLeastClockTo 12 = .ok (.aload_n 0, 1) := by decide +kernel
theorem dX0_ofLeastClockTo_13 : decode cX0_ofLeastClockTo 13 = .ok (.getfield 15, 3) := by decide +kernel
theorem dX0_ofLeastClockTo_16 : decode cX0_ofLeastClockTo 16 = .ok (.iload_n 3, 1) := by decide +kernel
theorem dX0_ofLeastClockTo_17 : decode cX0_ofLeastClockTo 17 = .ok (.iaload, 1) := by decide +kernel
theorem dX0_ofLeastClockTo_18 : decode cX0_ofLeastClockTo 18 = .ok (.iload_n 1, 1) := by decide +kernel
theorem dX0_ofLeastClockTo_19 : decode cX0_ofLeastClockTo 19 = .ok (.if_icmp .ne 25, 3) := by decide +kernel
theorem dX0_ofLeastClockTo_22 : decode cX0_ofLeastClockTo 22 = .ok (.iload_n 2, 1) := by decide +kernel
theorem dX0_ofLeastClockTo_23 : decode cX0_ofLeastClockTo 23 = .ok (.iconst (-1), 1) := by decide +kernel
theorem dX0_ofLeastClockTo_24 : decode cX0_ofLeastClockTo 24 = .ok (.if_icmp .eq 18, 3) := by decide +kernel
theorem dX0_ofLeastClockTo_27 : decode cX0_ofLeastClockTo 27 = .ok (.aload_n 0, 1) := by decide +kernel
theorem dX0_ofLeastClockTo_28 : decode cX0_ofLeastClockTo 28 = .ok (.getfield 24, 3) := by decide +kernel
theorem dX0_ofLeastClockTo_31 : decode cX0_ofLeastClockTo 31 = .ok (.iload_n 3, 1) := by decide +kernel
theorem dX0_ofLeastClockTo_32 : decode cX0_ofLeastClockTo 32 = .ok (.iaload, 1) := by decide +kernel
theorem dX0_ofLeastClockTo_33 : decode cX0_ofLeastClockTo 33 = .ok (.aload_n 0, 1) := by decide +kernel
theorem dX0_ofLeastClockTo_34 : decode cX0_ofLeastClockTo 34 = .ok (.getfield 24, 3) := by decide +kernel
theorem dX0_ofLeastClockTo_37 : decode cX0_ofLeastClockTo 37 = .ok (.iload_n 2, 1) := by decide +kernel
theorem dX0_ofLeastClockTo_38 : decode cX0_ofLeastClockTo 38 = .ok (.iaload, 1) := by decide +kernel
theorem dX0_ofLeastClockTo_39 : decode cX0_ofLeastClockTo 39 = .ok (.if_icmp .ge 5, 3) := by decide +kernel
theorem dX0_ofLeastClockTo_42 : decode cX0_ofLeastClockTo 42 = .ok (.iload_n 3, 1) := by decide +kernel
theorem dX0_ofLeastClockTo_43 : decode cX0_ofLeastClockTo 43 = .ok (.istore_n 2, 1) := by decide +kernel
theorem dX0_ofLeastClockTo_44 : decode cX0_ofLeastClockTo 44 = .ok (.iinc 3 1, 3) := by decide +kernel
theorem dX0_ofLeastClockTo_47 : decode cX0_ofLeastClockTo 47 = .ok (.goto (-43), 3) := by decide +kernel
theorem dX0_ofLeastClockTo_50 : decode cX0_ofLeastClockTo 50 = .ok (.iload_n 2, 1) := by decide +kernel
theorem dX0_ofLeastClockTo_51 : decode cX0_ofLeastClockTo 51 = .ok (.ireturn, 1) := by decide +kernel
theorem dX0_promiseMoreThan_0 : decode cX0_promiseMoreThan 0 = .ok (.iconst 0, 1) := by decide +kernel
theorem dX0_promiseMoreThan_1 : decode cX0_promiseMoreThan 1 = .ok (.istore_n 3, 1) := by decide +kernel
theorem dX0_promiseMoreThan_2 : decode cX0_promiseMoreThan 2 = .ok (.iload_n 3, 1) := by decide +kernel
theorem dX0_promiseMoreThan_3 : decode cX0_promiseMoreThan 3 = .ok (.aload_n 0, 1) := by decide +kernel
theorem dX0_promiseMoreThan_4 : decode cX0_promiseMoreThan 4 = .ok (.getfield 33, 3) := by decide +kernel
theorem dX0_promiseMoreThan_7 : decode cX0_promiseMoreThan 7 = .ok (.if_icmp .ge 38, 3) := by decide +kernel
theorem dX0_promiseMoreThan_10 : decode cX0_promiseMoreThan 10 = .ok (.aload_n 0, 1) := by decide +kernel
theorem dX0_promiseMoreThan_11 : decode cX0_promiseMoreThan 11 = .ok (.getfield 9, 3) := by decide +kernel
theorem dX0_promiseMoreThan_14 : decode cX0_promiseMoreThan 14 = .ok (.iload_n 3, 1) := by decide +kernel
theorem dX0_promiseMoreThan_15 : decode cX0_promiseMoreThan 15 = .ok (.iaload, 1) := by decide +kernel
theorem dX0_promiseMoreThan_16 : decode cX0_promiseMoreThan 16 = .ok (.iload_n 1, 1) := by decide +kernel
theorem dX0_promiseMoreThan_17 : decode cX0_promiseMoreThan 17 = .ok (.if_icmp .ne 22, 3) := by decide +kernel
theorem dX0_promiseMoreThan_20 : decode cX0_promiseMoreThan 20 = .ok (.aload_n 0, 1) := by decide +kernel
theorem dX0_promiseMoreThan_21 : decode cX0_promiseMoreThan 21 = .ok (.getfield 24, 3) := by decide +kernel
theorem dX0_promiseMoreThan_24 : decode cX0_promiseMoreThan 24 = .ok (.iload_n 3, 1) := by decide +kernel
theorem dX0_promiseMoreThan_25 : decode cX0_promiseMoreThan 25 = .ok (.iaload, 1) := by decide +kernel
theorem dX0_promiseMoreThan_26 : decode cX0_promiseMoreThan 26 = .ok (.iload_n 2, 1) := by decide +kernel
theorem dX0_promiseMoreThan_27 : decode cX0_promiseMoreThan 27 = .ok (.aload_n 0, 1) := by decide +kernel
theorem dX0_promiseMoreThan_28 : decode cX0_promiseMoreThan 28 = .ok (.getfield 18, 3) := by decide +kernel
theorem dX0_promiseMoreThan_31 : decode cX0_promiseMoreThan 31 = .ok (.iload_n 3, 1) := by decide +kernel
theorem dX0_promiseMoreThan_32 : decode cX0_promiseMoreThan 32 = .ok (.iaload, 1) := by decide +kernel
theorem dX0_promiseMoreThan_33 : decode cX0_promiseMoreThan 33 = .ok (.iadd, 1) := by decide +kernel
theorem dX0_promiseMoreThan_34 : decode cX0_promiseMoreThan 34 = .ok (.if_icmp .le 5, 3) := by decide +kernel
theorem dX0_promiseMoreThan_37 : decode cX0_promiseMoreThan 37 = .ok (.iconst 1, 1) := by decide +kernel
theorem dX0_promiseMoreThan_38 : decode cX0_promiseMoreThan 38 = .ok (.ireturn, 1) := by decide +kernel
theorem dX0_promiseMoreThan_39 : decode cX0_promiseMoreThan 39 = .ok (.iinc 3 1, 3) := by decide +kernel
theorem dX0_promiseMoreThan_42 : decode cX0_promiseMoreThan 42 = .ok (.goto (-40), 3) := by decide +kernel
theorem dX0_promiseMoreThan_45 : decode cX0_promiseMoreThan 45 = .ok (.iconst 0, 1) := by decide +kernel
theorem dX0_promiseMoreThan_46 : decode cX0_promiseMoreThan 46 = .ok (.ireturn, 1) := by decide +kernel
theorem dX0_raiseClocks_0 : decode cX0_raiseClocks 0 = .ok (.iconst 0, 1) := by decide +kernel
theorem dX0_raiseClocks_1 : decode cX0_raiseClocks 1 = .ok (.istore_n 2, 1) := by decide +kernel
theorem dX0_raiseClocks_2 : decode cX0_raiseClocks 2 = .ok (.iload_n 2, 1) := by decide +kernel
theorem dX0_raiseClocks_3 : decode cX0_raiseClocks 3 = .ok (.aload_n 0, 1) := by decide +kernel
theorem dX0_raiseClocks_4 : decode cX0_raiseClocks 4 = .ok (.getfield 33, 3) := by decide +kernel
theorem dX0_raiseClocks_7 : decode cX0_raiseClocks 7 = .ok (.if_icmp .ge 25, 3) := by decide +kernel
theorem dX0_raiseClocks_10 : decode cX0_raiseClocks 10 = .ok (.aload_n 0, 1) := by decide +kernel
theorem dX0_raiseClocks_11 : decode cX0_raiseClocks 11 = .ok (.getfield 24, 3) := by decide +kernel
theorem dX0_raiseClocks_14 : decode cX0_raiseClocks 14 = .ok (.iload_n 2, 1) := by decide +kernel
theorem dX0_raiseClocks_15 : decode cX0_raiseClocks 15 = .ok (.aload_n 0, 1) := by decide +kernel
theorem dX0_raiseClocks_16 : decode cX0_raiseClocks 16 = .ok (.getfield 24, 3) := by decide +kernel
theorem dX0_raiseClocks_19 : decode cX0_raiseClocks 19 = .ok (.iload_n 2, 1) := by decide +kernel
theorem dX0_raiseClocks_20 : decode cX0_raiseClocks 20 = .ok (.iaload, 1) := by decide +kernel
theorem dX0_raiseClocks_21 : decode cX0_raiseClocks 21 = .ok (.iload_n 1, 1) := by decide +kernel
theorem dX0_raiseClocks_22 : decode cX0_raiseClocks 22 = .ok (.invokestatic 43, 3) := by decide +kernel
theorem dX0_raiseClocks_25 : decode cX0_raiseClocks 25 = .ok (.iastore, 1) := by decide +kernel
theorem dX0_raiseClocks_26 : decode cX0_raiseClocks 26 = .ok (.iinc 2 1, 3) := by decide +kernel
theorem dX0_raiseClocks_29 : decode cX0_raiseClocks 29 = .ok (.goto (-27), 3) := by decide +kernel
theorem dX0_raiseClocks_32 : decode cX0_raiseClocks 32 = .ok (.return_, 1) := by decide +kernel
theorem dX0_hasRingWithoutPromise_0 : decode cX0_hasRingWithoutPromise 0 = .ok (.iconst 0, 1) := by decide +kernel
theorem dX0_hasRingWithoutPromise_1 : decode cX0_hasRingWithoutPromise 1 = .ok (.istore_n 2, 1) := by decide +kernel
theorem dX0_hasRingWithoutPromise_2 : decode cX0_hasRingWithoutPromise 2 = .ok (.iload_n 2, 1) := by decide +kernel
theorem dX0_hasRingWithoutPromise_3 : decode cX0_hasRingWithoutPromise 3 = .ok (.iload_n 1, 1) := by decide +kernel
theorem dX0_hasRingWithoutPromise_4 : decode cX0_hasRingWithoutPromise 4 = .ok (.if_icmp .ge 24, 3) := by decide +kernel
theorem dX0_hasRingWithoutPromise_7 : decode cX0_hasRingWithoutPromise 7 = .ok (.aload_n 0, 1) := by decide +kernel
theorem dX0_hasRingWithoutPromise_8 : decode cX0_hasRingWithoutPromise 8 = .ok (.iload_n 2, 1) := by decide +kernel
theorem dX0_hasRingWithoutPromise_9 : decode cX0_hasRingWithoutPromise 9 = .ok (.iload_n 1, 1) := by decide +kernel
theorem dX0_hasRingWithoutPromise_10 : decode cX0_hasRingWithoutPromise 10 = .ok (.invokevirtual 49, 3) := by decide +kernel
theorem dX0_hasRingWithoutPromise_13 : decode cX0_hasRingWithoutPromise 13 = .ok (.iconst 1, 1) := by decide +kernel
theorem dX0_hasRingWithoutPromise_14 : decode cX0_hasRingWithoutPromise 14 = .ok (.iload_n 2, 1) := by decide +kernel
theorem dX0_hasRingWithoutPromise_15 : decode cX0_hasRingWithoutPromise 15 = .ok (.ishl, 1) := by decide +kernel
theorem dX0_hasRingWithoutPromise_16 : decode cX0_hasRingWithoutPromise 16 = .ok (.iand, 1) := by decide +kernel
theorem dX0_hasRingWithoutPromise_17 : decode cX0_hasRingWithoutPromise 17 = .ok (.ifCond .eq 5, 3) := by decide +kernel
theorem dX0_hasRingWithoutPromise_20 : decode cX0_hasRingWithoutPromise 20 = .ok (.iconst 1, 1) := by decide +kernel
theorem dX0_hasRingWithoutPromise_21 : decode cX0_hasRingWithoutPromise 21 = .ok (.ireturn, 1) := by decide +kernel
theorem dX0_hasRingWithoutPromise_22 : decode cX0_hasRingWithoutPromise 22 = .ok (.iinc 2 1, 3) := by decide +kernel
theorem dX0_hasRingWithoutPromise_25 : decode cX0_hasRingWithoutPromise 25 = .ok (.goto (-23), 3) := by decide +kernel
theorem dX0_hasRingWithoutPromise_28 : decode cX0_hasRingWithoutPromise 28 = .ok (.iconst 0, 1) := by decide +kernel
theorem dX0_hasRingWithoutPromise_29 : decode cX0_hasRingWithoutPromise 29 = .ok (.ireturn, 1) := by decide +kernel
theorem dX0_reachedWithoutPromise_0 : decode cX0_reachedWithoutPromise 0 = .ok (.iconst 0, 1) := by decide +kernel
theorem dX0_reachedWithoutPromise_1 : decode cX0_reachedWithoutPromise 1 = .ok (.istore_n 3, 1) := by decide +kernel
theorem dX0_reachedWithoutPromise_2 : decode cX0_reachedWithoutPromise 2 = .ok (.iconst 0, 1) := by decide +kernel
theorem dX0_reachedWithoutPromise_3 : decode cX0_reachedWithoutPromise 3 = .ok (.istore 4, 2) := by decide +kernel
theorem dX0_reachedWithoutPromise_5 : decode cX0_reachedWithoutPromise 5 = .ok (.iload 4, 2) := by decide +kernel
theorem dX0_reachedWithoutPromise_7 : decode cX0_reachedWithoutPromise 7 = .ok (.iload_n 2, 1) := by decide +kernel
theorem dX0_reachedWithoutPromise_8 : decode cX0_reachedWithoutPromise 8 = .ok (.if_icmp .ge 86, 3) := by decide +kernel
theorem dX0_reachedWithoutPromise_11 : decode cX0_reachedWithoutPromise 11 = .ok (.iconst 0, 1) := by decide +kernel
theorem dX0_reachedWithoutPromise_12 : decode cX0_reachedWithoutPromise 12 = .ok (.istore 5, 2) := by decide +kernel
theorem dX0_reachedWithoutPromise_14 : decode cX0_reachedWithoutPromise 14 = .ok (.iload 5, 2) := by decide +kernel
theorem dX0_reachedWithoutPromise_16 : decode cX0_reachedWithoutPromise 16 = .ok (.aload_n 0, 1) := by decide +kernel
theorem dX0_reachedWithoutPromise_17 : decode cX0_reachedWithoutPromise 17 = .ok (.getfield 33, 3) := by decide +kernel
theorem dX0_reachedWithoutPromise_20 : decode cX0_reachedWithoutPromise 20 = .ok (.if_icmp .ge 68, 3) := by decide +kernel
theorem dX0_reachedWithoutPromise_23 : decode cX0_reachedWithoutPromise 23 = .ok (.aload_n 0, 1) := by decide +kernel
theorem dX0_reachedWithoutPromise_24 : decode cX0_reachedWithoutPromise 24 = .ok (.getfield 9, 3) := by decide +kernel
theorem dX0_reachedWithoutPromise_27 : decode cX0_reachedWithoutPromise 27 = .ok (.iload 5, 2) := by decide +kernel
theorem dX0_reachedWithoutPromise_29 : decode cX0_reachedWithoutPromise 29 = .ok (.iaload, 1) := by decide +kernel
theorem dX0_reachedWithoutPromise_30 : decode cX0_reachedWithoutPromise 30 = .ok (.iload_n 1, 1) := by decide +kernel
theorem dX0_reachedWithoutPromise_31 : decode cX0_reachedWithoutPromise 31 = .ok (.if_icmp .eq 17, 3) := by decide +kernel
theorem dX0_reachedWithoutPromise_34 : decode cX0_reachedWithoutPromise 34 = .ok (.iload_n 3, 1) := by decide +kernel
theorem dX0_reachedWithoutPromise_35 : decode cX0_reachedWithoutPromise 35 = .ok (.iconst 1, 1) := by decide +kernel
theorem dX0_reachedWithoutPromise_36 : decode cX0_reachedWithoutPromise 36 = .ok (.aload_n 0, 1) := by decide +kernel
theorem dX0_reachedWithoutPromise_37 : decode cX0_reachedWithoutPromise 37 = .ok (.getfield 9, 3) := by decide +kernel
theorem dX0_reachedWithoutPromise_40 : decode cX0_reachedWithoutPromise 40 = .ok (.iload 5, 2) := by decide +kernel
theorem dX0_reachedWithoutPromise_42 : decode cX0_reachedWithoutPromise 42 = .ok (.iaload, 1) := by decide +kernel
theorem dX0_reachedWithoutPromise_43 : decode cX0_reachedWithoutPromise 43 = .ok (.ishl, 1) := by decide +kernel
theorem dX0_reachedWithoutPromise_44 : decode cX0_reachedWithoutPromise 44 = .ok (.iand, 1) := by decide +kernel
theorem dX0_reachedWithoutPromise_45 : decode cX0_reachedWithoutPromise 45 = .ok (.ifCond .eq 7, 3) := by decide +kernel
theorem dX0_reachedWithoutPromise_48 : decode cX0_reachedWithoutPromise 48 = .ok (.iconst 1, 1) := by decide +kernel
theorem dX0_reachedWithoutPromise_49 : decode cX0_reachedWithoutPromise 49 = .ok (.goto 4, 3) := by decide +kernel
theorem dX0_reachedWithoutPromise_52 : decode cX0_reachedWithoutPromise 52 = .ok (.iconst 0, 1) := by decide +kernel
theorem dX0_reachedWithoutPromise_53 : decode cX0_reachedWithoutPromise 53 = .ok (.istore 6, 2) := by decide +kernel
theorem dX0_reachedWithoutPromise_55 : decode cX0_reachedWithoutPromise 55 = .ok (.aload_n 0, 1) := by decide +kernel
theorem dX0_reachedWithoutPromise_56 : decode cX0_reachedWithoutPromise 56 = .ok (.getfield 18, 3) := by decide +kernel
theorem dX0_reachedWithoutPromise_59 : decode cX0_reachedWithoutPromise 59 = .ok (.iload 5, 2) := by decide +kernel
theorem dX0_reachedWithoutPromise_61 : decode cX0_reachedWithoutPromise 61 = .ok (.iaload, 1) := by decide +kernel
theorem dX0_reachedWithoutPromise_62 : decode cX0_reachedWithoutPromise 62 = .ok (.ifCond .ne 20, 3) := by decide +kernel
theorem dX0_reachedWithoutPromise_65 : decode cX0_reachedWithoutPromise 65 = .ok (.iload 6, 2) := by decide +kernel
theorem dX0_reachedWithoutPromise_67 : decode cX0_reachedWithoutPromise 67 = .ok (.ifCond .eq 15, 3) := by decide +kernel
theorem dX0_reachedWithoutPromise_70 : decode cX0_reachedWithoutPromise 70 = .ok (.iload_n 3, 1) := by decide +kernel
theorem dX0_reachedWithoutPromise_71 : decode cX0_reachedWithoutPromise 71 = .ok (.iconst 1, 1) := by decide +kernel
theorem dX0_reachedWithoutPromise_72 : decode cX0_reachedWithoutPromise 72 = .ok (.aload_n 0, 1) := by decide +kernel
theorem dX0_reachedWithoutPromise_73 : decode cX0_reachedWithoutPromise 73 = .ok (.getfield 15, 3) := by decide +kernel
theorem dX0_reachedWithoutPromise_76 : decode cX0_reachedWithoutPromise 76 = .ok (.iload 5, 2) := by decide +kernel
theorem dX0_reachedWithoutPromise_78 : decode cX0_reachedWithoutPromise 78 = .ok (.iaload, 1) := by decide +kernel
theorem dX0_reachedWithoutPromise_79 : decode cX0_reachedWithoutPromise 79 = .ok (.ishl, 1) := by decide +kernel
theorem dX0_reachedWithoutPromise_80 : decode cX0_reachedWithoutPromise 80 = .ok (.ior, 1) := by decide +kernel
theorem dX0_reachedWithoutPromise_81 : decode cX0_reachedWithoutPromise 81 = .ok (.istore_n 3, 1) := by decide +kernel
theorem dX0_reachedWithoutPromise_82 : decode cX0_reachedWithoutPromise 82 = .ok (.iinc 5 1, 3) := by decide +kernel
theorem dX0_reachedWithoutPromise_85 : decode cX0_reachedWithoutPromise 85 = .ok (.goto (-71), 3) := by decide +kernel
theorem dX0_reachedWithoutPromise_88 : decode cX0_reachedWithoutPromise 88 = .ok (.iinc 4 1, 3) := by decide +kernel
theorem dX0_reachedWithoutPromise_91 : decode cX0_reachedWithoutPromise 91 = .ok (.goto (-86), 3) := by decide +kernel
theorem dX0_reachedWithoutPromise_94 : decode cX0_reachedWithoutPromise 94 = .ok (.iload_n 3, 1) := by decide +kernel
theorem dX0_reachedWithoutPromise_95 : decode cX0_reachedWithoutPromise 95 = .ok (.ireturn, 1) := by decide +kernel
theorem dX1_init_0 : decode cX1_init 0 = .ok (.aload_n 0, 1) := by decide +kernel
theorem dX1_init_1 : decode cX1_init 1 = .ok (.invokespecial 3, 3) := by decide +kernel
theorem dX1_init_4 : decode cX1_init 4 = .ok (.aload_n 0, 1) := by decide +kernel
theorem dX1_init_5 : decode cX1_init 5 = .ok (.sipush 200, 3) := by decide +kernel
theorem dX1_init_8 : decode cX1_init 8 = .ok (.newarray .int, 2) := by decide +kernel
theorem dX1_init_10 : decode cX1_init 10 = .ok (.putfield 9, 3) := by decide +kernel
theorem dX1_init_13 : decode cX1_init 13 = .ok (.aload_n 0, 1) := by decide +kernel
theorem dX1_init_14 : decode cX1_init 14 = .ok (.sipush 200, 3) := by decide +kernel
theorem dX1_init_17 : decode cX1_init 17 = .ok (.newarray .int, 2) := by decide +kernel
theorem dX1_init_19 : decode cX1_init 19 = .ok (.putfield 15, 3) := by decide +kernel
theorem dX1_init_22 : decode cX1_init 22 = .ok (.aload_n 0, 1) := by decide +kernel
theorem dX1_init_23 : decode cX1_init 23 = .ok (.sipush 200, 3) := by decide +kernel
theorem dX1_init_26 : decode cX1_init 26 = .ok (.newarray .int, 2) := by decide +kernel
theorem dX1_init_28 : decode cX1_init 28 = .ok (.putfield 18, 3) := by decide +kernel
theorem dX1_init_31 : decode cX1_init 31 = .ok (.aload_n 0, 1) := by decide +kernel
theorem dX1_init_32 : decode cX1_init 32 = .ok (.sipush 200, 3) := by decide +kernel
theorem dX1_init_35 : decode cX1_init 35 = .ok (.newarray .int, 2) := by decide +kernel
theorem dX1_init_37 : decode cX1_init 37 = .ok (.putfield 21, 3) := by decide +kernel
theorem dX1_init_40 : decode cX1_init 40 = .ok (.return_, 1) := by decide +kernel
theorem dX1_clear_0 : decode cX1_clear 0 = .ok (.aload_n 0, 1) := by decide +kernel
theorem dX1_clear_1 : decode cX1_clear 1 = .ok (.iconst 0, 1) := by decide +kernel
theorem dX1_clear_2 : decode cX1_clear 2 = .ok (.putfield 24, 3) := by decide +kernel
theorem dX1_clear_5 : decode cX1_clear 5 = .ok (.return_, 1) := by decide +kernel
theorem dX1_add_0 : decode cX1_add 0 = .ok (.aload_n 0, 1) := by decide +kernel
theorem dX1_add_1 : decode cX1_add 1 = .ok (.getfield 24, 3) := by decide +kernel
theorem dX1_add_4 : decode cX1_add 4 = .ok (.sipush 200, 3) := by decide +kernel
theorem dX1_add_7 : decode cX1_add 7 = .ok (.if_icmp .lt 4, 3) := by decide +kernel
theorem dX1_add_10 : decode cX1_add 10 = .ok (.return_, 1) := by decide +kernel
theorem dX1_add_11 : decode cX1_add 11 = .ok (.aload_n 0, 1) := by decide +kernel
theorem dX1_add_12 : decode cX1_add 12 = .ok (.getfield 9, 3) := by decide +kernel
theorem dX1_add_15 : decode cX1_add 15 = .ok (.aload_n 0, 1) := by decide +kernel
theorem dX1_add_16 : decode cX1_add 16 = .ok (.getfield 24, 3) := by decide +kernel
theorem dX1_add_19 : decode cX1_add 19 = .ok (.iload_n 1, 1) := by decide +kernel
theorem dX1_add_20 : decode cX1_add 20 = .ok (.iastore, 1) := by decide +kernel
theorem dX1_add_21 : decode cX1_add 21 = .ok (.aload_n 0, 1) := by decide +kernel
theorem dX1_add_22 : decode cX1_add 22 = .ok (.getfield 15, 3) := by decide +kernel
theorem dX1_add_25 : decode cX1_add 25 = .ok (.aload_n 0, 1) := by decide +kernel
theorem dX1_add_26 : decode cX1_add 26 = .ok (.getfield 24, 3) := by decide +kernel
theorem dX1_add_29 : decode cX1_add 29 = .ok (.iload_n 2, 1) := by decide +kernel
theorem dX1_add_30 : decode cX1_add 30 = .ok (.iastore, 1) := by decide +kernel
theorem dX1_add_31 : decode cX1_add 31 = .ok (.aload_n 0, 1) := by decide +kernel
theorem dX1_add_32 : decode cX1_add 32 = .ok (.getfield 18, 3) := by decide +kernel
theorem dX1_add_35 : decode cX1_add 35 = .ok (.aload_n 0, 1) := by decide +kernel
theorem dX1_add_36 : decode cX1_add 36 = .ok (.getfield 24, 3) := by decide +kernel
theorem dX1_add_39 : decode cX1_add 39 = .ok (.iload_n 3, 1) := by decide +kernel
theorem dX1_add_40 : decode cX1_add 40 = .ok (.iastore, 1) := by decide +kernel
theorem dX1_add_41 : decode cX1_add 41 = .ok (.aload_n 0, 1) := by decide +kernel
theorem dX1_add_42 : decode cX1_add 42 = .ok (.getfield 21, 3) := by decide +kernel
theorem dX1_add_45 : decode cX1_add 45 = .ok (.aload_n 0, 1) := by decide +kernel
theorem dX1_add_46 : decode cX1_add 46 = .ok (.getfield 24, 3) := by decide +kernel
theorem dX1_add_49 : decode cX1_add 49 = .ok (.iload 4, 2) := by decide +kernel
theorem dX1_add_51 : decode cX1_add 51 = .ok (.iastore, 1) := by decide +kernel
theorem dX1_add_52 : decode cX1_add 52 = .ok (.aload_n 0, 1) := by decide +kernel
theorem dX1_add_53 : decode cX1_add 53 = .ok (.dup, 1) := by decide +kernel
theorem dX1_add_54 : decode cX1_add 54 = .ok (.getfield 24, 3) := by decide +kernel
theorem dX1_add_57 : decode cX1_add 57 = .ok (.iconst 1, 1) := by decide +kernel
theorem dX1_add_58 : decode cX1_add 58 = .ok (.iadd, 1) := by decide +kernel
theorem dX1_add_59 : decode cX1_add 59 = .ok (.putfield 24, 3) := by decide +kernel
theorem dX1_add_62 : decode cX1_add 62 = .ok (.return_, 1) := by decide +kernel
theorem dX2_init_0 : decode cX2_init 0 = .ok (.aload_n 0, 1) := by decide +kernel
theorem dX2_init_1 : decode cX2_init 1 = .ok (.invokespecial 3, 3) := by decide +kernel
theorem dX2_init_4 : decode cX2_init 4 = .ok (.aload_n 0, 1) := by decide +kernel
theorem dX2_init_5 : decode cX2_init 5 = .ok (.bipush 30, 2) := by decide +kernel
theorem dX2_init_7 : decode cX2_init 7 = .ok (.newarray .int, 2) := by decide +kernel
theorem dX2_init_9 : decode cX2_init 9 = .ok (.putfield 9, 3) := by decide +kernel
theorem dX2_init_12 : decode cX2_init 12 = .ok (.aload_n 0, 1) := by decide +kernel
theorem dX2_init_13 : decode cX2_init 13 = .ok (.bipush 30, 2) := by decide +kernel
theorem dX2_init_15 : decode cX2_init 15 = .ok (.newarray .int, 2) := by decide +kernel
theorem dX2_init_17 : decode cX2_init 17 = .ok (.putfield 15, 3) := by decide +kernel
theorem dX2_init_20 : decode cX2_init 20 = .ok (.aload_n 0, 1) := by decide +kernel
theorem dX2_init_21 : decode cX2_init 21 = .ok (.bipush 30, 2) := by decide +kernel
theorem dX2_init_23 : decode cX2_init 23 = .ok (.newarray .int, 2) := by decide +kernel
theorem dX2_init_25 : decode cX2_init 25 = .ok (.putfield 18, 3) := by decide +kernel
theorem dX2_init_28 : decode cX2_init 28 = .ok (.return_, 1) := by decide +kernel
theorem dX2_firstTime_0 : decode cX2_firstTime 0 = .ok (.aload_n 0, 1) := by decide +kernel
theorem dX2_firstTime_1 : decode cX2_firstTime 1 = .ok (.getfield 21, 3) := by decide +kernel
theorem dX2_firstTime_4 : decode cX2_firstTime 4 = .ok (.ifCond .ne 8, 3) := by decide +kernel
theorem dX2_firstTime_7 : decode cX2_firstTime 7 = .ok (.ldc 25, 2) := by decide +kernel
theorem dX2_firstTime_9 : decode cX2_firstTime 9 = .ok (.goto 9, 3) := by decide +kernel
theorem dX2_firstTime_12 : decode cX2_firstTime 12 = .ok (.aload_n 0, 1) := by decide +kernel
theorem dX2_firstTime_13 : decode cX2_firstTime 13 = .ok (.getfield 9, 3) := by decide +kernel
theorem dX2_firstTime_16 : decode cX2_firstTime 16 = .ok (.iconst 0, 1) := by decide +kernel
theorem dX2_firstTime_17 : decode cX2_firstTime 17 = .ok (.iaload, 1) := by decide +kernel
theorem dX2_firstTime_18 : decode cX2_firstTime 18 = .ok (.ireturn, 1) := by decide +kernel
theorem dX2_firstValue_0 : decode cX2_firstValue 0 = .ok (.aload_n 0, 1) := by decide +kernel
theorem dX2_firstValue_1 : decode cX2_firstValue 1 = .ok (.getfield 21, 3) := by decide +kernel
theorem dX2_firstValue_4 : decode cX2_firstValue 4 = .ok (.ifCond .ne 7, 3) := by decide +kernel
theorem dX2_firstValue_7 : decode cX2_firstValue 7 = .ok (.iconst (-1), 1) := by decide +kernel
theorem dX2_firstValue_8 : decode cX2_firstValue 8 = .ok (.goto 9, 3) := by decide +kernel
theorem dX2_firstValue_11 : decode cX2_firstValue 11 = .ok (.aload_n 0, 1) := by decide +kernel
theorem dX2_firstValue_12 : decode cX2_firstValue 12 = .ok (.getfield 15, 3) := by decide +kernel
theorem dX2_firstValue_15 : decode cX2_firstValue 15 = .ok (.iconst 0, 1) := by decide +kernel
theorem dX2_firstValue_16 : decode cX2_firstValue 16 = .ok (.iaload, 1) := by decide +kernel
theorem dX2_firstValue_17 : decode cX2_firstValue 17 = .ok (.ireturn, 1) := by decide +kernel
theorem dX2_add_0 : decode cX2_add 0 = .ok (.aload_n 0, 1) := by decide +kernel
theorem dX2_add_1 : decode cX2_add 1 = .ok (.getfield 21, 3) := by decide +kernel
theorem dX2_add_4 : decode cX2_add 4 = .ok (.bipush 30, 2) := by decide +kernel
theorem dX2_add_6 : decode cX2_add 6 = .ok (.if_icmp .lt 4, 3) := by decide +kernel
theorem dX2_add_9 : decode cX2_add 9 = .ok (.return_, 1) := by decide +kernel
theorem dX2_add_10 : decode cX2_add 10 = .ok (.aload_n 0, 1) := by decide +kernel
theorem dX2_add_11 : decode cX2_add 11 = .ok (.getfield 21, 3) := by decide +kernel
theorem dX2_add_14 : decode cX2_add 14 = .ok (.istore 4, 2) := by decide +kernel
theorem dX2_add_16 : decode cX2_add 16 = .ok (.iload 4, 2) := by decide +kernel
theorem dX2_add_18 : decode cX2_add 18 = .ok (.ifCond .le 70, 3) := by decide +kernel
theorem dX2_add_21 : decode cX2_add 21 = .ok (.aload_n 0, 1) := by decide +kernel
theorem dX2_add_22 : decode cX2_add 22 = .ok (.iload 4, 2) := by decide +kernel
theorem dX2_add_24 : decode cX2_add 24 = .ok (.iconst 1, 1) := by decide +kernel
theorem dX2_add_25 : decode cX2_add 25 = .ok (.isub, 1) := by decide +kernel
theorem dX2_add_26 : decode cX2_add 26 = .ok (.iload_n 1, 1) := by decide +kernel
theorem dX2_add_27 : decode cX2_add 27 = .ok (.iload_n 3, 1) := by decide +kernel
theorem dX2_add_28 : decode cX2_add 28 = .ok (.invokevirtual 26, 3) := by decide +kernel
theorem dX2_add_31 : decode cX2_add 31 = .ok (.ifCond .eq 57, 3) := by decide +kernel
theorem dX2_add_34 : decode cX2_add 34 = .ok (.aload_n 0, 1) := by decide +kernel
theorem dX2_add_35 : decode cX2_add 35 = .ok (.getfield 9, 3) := by decide +kernel
theorem dX2_add_38 : decode cX2_add 38 = .ok (.iload 4, 2) := by decide +kernel
theorem dX2_add_40 : decode cX2_add 40 = .ok (.aload_n 0, 1) := by decide +kernel
theorem dX2_add_41 : decode cX2_add 41 = .ok (.getfield 9, 3) := by decide +kernel
theorem dX2_add_44 : decode cX2_add 44 = .ok (.iload 4, 2) := by decide +kernel
theorem dX2_add_46 : decode cX2_add 46 = .ok (.iconst 1, 1) := by decide +kernel
theorem dX2_add_47 : decode cX2_add 47 = .ok (.isub, 1) := by decide +kernel
theorem dX2_add_48 : decode cX2_add 48 = .ok (.iaload, 1) := by decide +kernel
theorem dX2_add_49 : decode cX2_add 49 = .ok (.iastore, 1) := by decide +kernel
theorem dX2_add_50 : decode cX2_add 50 = .ok (.aload_n 0, 1) := by decide +kernel
theorem dX2_add_51 : decode cX2_add 51 = .ok (.getfield 15, 3) := by decide +kernel
theorem dX2_add_54 : decode cX2_add 54 = .ok (.iload 4, 2) := by decide +kernel
theorem dX2_add_56 : decode cX2_add 56 = .ok (.aload_n 0, 1) := by decide +kernel
theorem dX2_add_57 : decode cX2_add 57 = .ok (.getfield 15, 3) := by decide +kernel
theorem dX2_add_60 : decode cX2_add 60 = .ok (.iload 4, 2) := by decide +kernel
theorem dX2_add_62 : decode cX2_add 62 = .ok (.iconst 1, 1) := by decide +kernel
theorem dX2_add_63 : decode cX2_add 63 = .ok (.isub, 1) := by decide +kernel
theorem dX2_add_64 : decode cX2_add 64 = .ok (.iaload, 1) := by decide +kernel
theorem dX2_add_65 : decode cX2_add 65 = .ok (.iastore, 1) := by decide +kernel
theorem dX2_add_66 : decode cX2_add 66 = .ok (.aload_n 0, 1) := by decide +kernel
theorem dX2_add_67 : decode cX2_add 67 = .ok (.getfield 18, 3) := by decide +kernel
theorem dX2_add_70 : decode cX2_add 70 = .ok (.iload 4, 2) := by decide +kernel
theorem dX2_add_72 : decode cX2_add 72 = .ok (.aload_n 0, 1) := by decide +kernel
theorem dX2_add_73 : decode cX2_add 73 = .ok (.getfield 18, 3) := by decide +kernel
theorem dX2_add_76 : decode cX2_add 76 = .ok (.iload 4, 2) := by decide +kernel
theorem dX2_add_78 : decode cX2_add 78 = .ok (.iconst 1, 1) := by decide +kernel
theorem dX2_add_79 : decode cX2_add 79 = .ok (.isub, 1) := by decide +kernel
theorem dX2_add_80 : decode cX2_add 80 = .ok (.iaload, 1) := by decide +kernel
theorem dX2_add_81 : decode cX2_add 81 = .ok (.iastore, 1) := by decide +kernel
theorem dX2_add_82 : decode cX2_add 82 = .ok (.iinc 4 (-1), 3) := by decide +kernel
theorem dX2_add_85 : decode cX2_add 85 = .ok (.goto (-69), 3) := by decide +kernel
theorem dX2_add_88 : decode cX2_add 88 = .ok (.aload_n 0, 1) := by decide +kernel
theorem dX2_add_89 : decode cX2_add 89 = .ok (.getfield 9, 3) := by decide +kernel
theorem dX2_add_92 : decode cX2_add 92 = .ok (.iload 4, 2) := by decide +kernel
theorem dX2_add_94 : decode cX2_add 94 = .ok (.iload_n 1, 1) := by decide +kernel
theorem dX2_add_95 : decode cX2_add 95 = .ok (.iastore, 1) := by decide +kernel
theorem dX2_add_96 : decode cX2_add 96 = .ok (.aload_n 0, 1) := by decide +kernel
theorem dX2_add_97 : decode cX2_add 97 = .ok (.getfield 15, 3) := by decide +kernel
theorem dX2_add_100 : decode cX2_add 100 = .ok (.iload 4, 2) := by decide +kernel
theorem dX2_add_102 : decode cX2_add 102 = .ok (.iload_n 2, 1) := by decide +kernel
theorem dX2_add_103 : decode cX2_add 103 = .ok (.iastore, 1) := by decide +kernel
theorem dX2_add_104 : decode cX2_add 104 = .ok (.aload_n 0, 1) := by decide +kernel
theorem dX2_add_105 : decode cX2_add 105 = .ok (.getfield 18, 3) := by decide +kernel
theorem dX2_add_108 : decode cX2_add 108 = .ok (.iload 4, 2) := by decide +kernel
theorem dX2_add_110 : decode cX2_add 110 = .ok (.iload_n 3, 1) := by decide +kernel
theorem dX2_add_111 : decode cX2_add 111 = .ok (.iastore, 1) := by decide +kernel
theorem dX2_add_112 : decode cX2_add 112 = .ok (.aload_n 0, 1) := by decide +kernel
theorem dX2_add_113 : decode cX2_add 113 = .ok (.dup, 1) := by decide +kernel
theorem dX2_add_114 : decode cX2_add 114 = .ok (.getfield 21, 3) := by decide +kernel
theorem dX2_add_117 : decode cX2_add 117 = .ok (.iconst 1, 1) := by decide +kernel
theorem dX2_add_118 : decode cX2_add 118 = .ok (.iadd, 1) := by decide +kernel
theorem dX2_add_119 : decode cX2_add 119 = .ok (.putfield 21, 3) := by decide +kernel
theorem dX2_add_122 : decode cX2_add 122 = .ok (.return_, 1) := by decide +kernel
theorem dX2_isBehind_0 : decode cX2_isBehind 0 = .ok (.aload_n 0, 1) := by decide +kernel
theorem dX2_isBehind_1 : decode cX2_isBehind 1 = .ok (.getfield 9, 3) := by decide +kernel
theorem dX2_isBehind_4 : decode cX2_isBehind 4 = .ok (.iload_n 1, 1) := by decide +kernel
theorem dX2_isBehind_5 : decode cX2_isBehind 5 = .ok (.iaload, 1) := by decide +kernel
theorem dX2_isBehind_6 : decode cX2_isBehind 6 = .ok (.iload_n 2, 1) := by decide +kernel
theorem dX2_isBehind_7 : decode cX2_isBehind 7 = .ok (.if_icmp .gt 23, 3) := by decide +kernel
theorem dX2_isBehind_10 : decode cX2_isBehind 10 = .ok (.aload_n 0, 1) := by decide +kernel
theorem dX2_isBehind_11 : decode cX2_isBehind 11 = .ok (.getfield 9, 3) := by decide +kernel
theorem dX2_isBehind_14 : decode cX2_isBehind 14 = .ok (.iload_n 1, 1) := by decide +kernel
theorem dX2_isBehind_15 : decode cX2_isBehind 15 = .ok (.iaload, 1) := by decide +kernel
theorem dX2_isBehind_16 : decode cX2_isBehind 16 = .ok (.iload_n 2, 1) := by decide +kernel
theorem dX2_isBehind_17 : decode cX2_isBehind 17 = .ok (.if_icmp .ne 17, 3) := by decide +kernel
theorem dX2_isBehind_20 : decode cX2_isBehind 20 = .ok (.aload_n 0, 1) := by decide +kernel
theorem dX2_isBehind_21 : decode cX2_isBehind 21 = .ok (.getfield 18, 3) := by decide +kernel
theorem dX2_isBehind_24 : decode cX2_isBehind 24 = .ok (.iload_n 1, 1) := by decide +kernel
theorem dX2_isBehind_25 : decode cX2_isBehind 25 = .ok (.iaload, 1) := by decide +kernel
theorem dX2_isBehind_26 : decode cX2_isBehind 26 = .ok (.iload_n 3, 1) := by decide +kernel
theorem dX2_isBehind_27 : decode cX2_isBehind 27 = .ok (.if_icmp .le 7, 3) := by decide +kernel
theorem dX2_isBehind_30 : decode cX2_isBehind 30 = .ok (.iconst 1, 1) := by decide +kernel
theorem dX2_isBehind_31 : decode cX2_isBehind 31 = .ok (.goto 4, 3) := by decide +kernel
theorem dX2_isBehind_34 : decode cX2_isBehind 34 = .ok (.iconst 0, 1) := by decide +kernel
theorem dX2_isBehind_35 : decode cX2_isBehind 35 = .ok (.ireturn, 1) := by decide +kernel
theorem dX2_removeFirst_0 : decode cX2_removeFirst 0 = .ok (.aload_n 0, 1) := by decide +kernel
theorem dX2_removeFirst_1 : decode cX2_removeFirst 1 = .ok (.getfield 21, 3) := by decide +kernel
theorem dX2_removeFirst_4 : decode cX2_removeFirst 4 = .ok (.ifCond .ne 4, 3) := by decide +kernel
theorem dX2_removeFirst_7 : decode cX2_removeFirst 7 = .ok (.return_, 1) := by decide +kernel
theorem dX2_removeFirst_8 : decode cX2_removeFirst 8 = .ok (.aload_n 0, 1) := by decide +kernel
theorem dX2_removeFirst_9 : decode cX2_removeFirst 9 = .ok (.dup, 1) := by decide +kernel
theorem dX2_removeFirst_10 : decode cX2_removeFirst 10 = .ok (.getfield 21, 3) := by decide +kernel
theorem dX2_removeFirst_13 : decode cX2_removeFirst 13 = .ok (.iconst 1, 1) := by decide +kernel
theorem dX2_removeFirst_14 : decode cX2_removeFirst 14 = .ok (.isub, 1) := by decide +kernel
theorem dX2_removeFirst_15 : decode cX2_removeFirst 15 = .ok (.putfield 21, 3) := by decide +kernel
theorem dX2_removeFirst_18 : decode cX2_removeFirst 18 = .ok (.aload_n 0, 1) := by decide +kernel
theorem dX2_removeFirst_19 : decode cX2_removeFirst 19 = .ok (.getfield 9, 3) := by decide +kernel
theorem dX2_removeFirst_22 : decode cX2_removeFirst 22 = .ok (.iconst 1, 1) := by decide +kernel
theorem dX2_removeFirst_23 : decode cX2_removeFirst 23 = .ok (.aload_n 0, 1) := by decide +kernel
theorem dX2_removeFirst_24 : decode cX2_removeFirst 24 = .ok (.getfield 9, 3) := by decide +kernel
theorem dX2_removeFirst_27 : decode cX2_removeFirst 27 = .ok (.iconst 0, 1) := by decide +kernel
theorem dX2_removeFirst_28 : decode cX2_removeFirst 28 = .ok (.aload_n 0, 1) := by decide +kernel
theorem dX2_removeFirst_29 : decode cX2_removeFirst 29 = .ok (.getfield 21, 3) := by decide +kernel
theorem dX2_removeFirst_32 : decode cX2_removeFirst 32 = .ok (.invokestatic 30, 3) := by decide +kernel
theorem dX2_removeFirst_35 : decode cX2_removeFirst 35 = .ok (.aload_n 0, 1) := by decide +kernel
theorem dX2_removeFirst_36 : decode cX2_removeFirst 36 = .ok (.getfield 15, 3) := by decide +kernel
theorem dX2_removeFirst_39 : decode cX2_removeFirst 39 = .ok (.iconst 1, 1) := by decide +kernel
theorem dX2_removeFirst_40 : decode cX2_removeFirst 40 = .ok (.aload_n 0, 1) := by decide +kernel
theorem dX2_removeFirst_41 : decode cX2_removeFirst 41 = .ok (.getfield 15, 3) := by decide +kernel
theorem dX2_removeFirst_44 : decode cX2_removeFirst 44 = .ok (.iconst 0, 1) := by decide +kernel
theorem dX2_removeFirst_45 : decode cX2_removeFirst 45 = .ok (.aload_n 0, 1) := by decide +kernel
theorem dX2_removeFirst_46 : decode cX2_removeFirst 46 = .ok (.getfield 21, 3) := by decide +kernel
theorem dX2_removeFirst_49 : decode cX2_removeFirst 49 = .ok (.invokestatic 30, 3) := by decide +kernel
theorem dX2_removeFirst_52 : decode cX2_removeFirst 52 = .ok (.aload_n 0, 1) := by decide +kernel
theorem dX2_removeFirst_53 : decode cX2_removeFirst 53 = .ok (.getfield 18, 3) := by decide +kernel
theorem dX2_removeFirst_56 : decode cX2_removeFirst 56 = .ok (.iconst 1, 1) := by decide +kernel
theorem dX2_removeFirst_57 : decode cX2_removeFirst 57 = .ok (.aload_n 0, 1) := by decide +kernel
theorem dX2_removeFirst_58 : decode cX2_removeFirst 58 = .ok (.getfield 18, 3) := by decide +kernel
theorem dX2_removeFirst_61 : decode cX2_removeFirst 61 = .ok (.iconst 0, 1) := by decide +kernel
theorem dX2_removeFirst_62 : decode cX2_removeFirst 62 = .ok (.aload_n 0, 1) := by decide +kernel
theorem dX2_removeFirst_63 : decode cX2_removeFirst 63 = .ok (.getfield 21, 3) := by decide +kernel
theorem dX2_removeFirst_66 : decode cX2_removeFirst 66 = .ok (.invokestatic 30, 3) := by decide +kernel
theorem dX2_removeFirst_69 : decode cX2_removeFirst 69 = .ok (.return_, 1) := by decide +kernel
theorem dX2_copyFrom_0 : decode cX2_copyFrom 0 = .ok (.aload_n 1, 1) := by decide +kernel
theorem dX2_copyFrom_1 : decode cX2_copyFrom 1 = .ok (.getfield 9, 3) := by decide +kernel
theorem dX2_copyFrom_4 : decode cX2_copyFrom 4 = .ok (.iconst 0, 1) := by decide +kernel
theorem dX2_copyFrom_5 : decode cX2_copyFrom 5 = .ok (.aload_n 0, 1) := by decide +kernel
theorem dX2_copyFrom_6 : decode cX2_copyFrom 6 = .ok (.getfield 9, 3) := by decide +kernel
theorem dX2_copyFrom_9 : decode cX2_copyFrom 9 = .ok (.iconst 0, 1) := by decide +kernel
theorem dX2_copyFrom_10 : decode cX2_copyFrom 10 = .ok (.aload_n 1, 1) := by decide +kernel
theorem dX2_copyFrom_11 : decode cX2_copyFrom 11 = .ok (.getfield 21, 3) := by decide +kernel
theorem dX2_copyFrom_14 : decode cX2_copyFrom 14 = .ok (.invokestatic 30, 3) := by decide +kernel
theorem dX2_copyFrom_17 : decode cX2_copyFrom 17 = .ok (.aload_n 1, 1) := by decide +kernel
theorem dX2_copyFrom_18 : decode cX2_copyFrom 18 = .ok (.getfield 15, 3) := by decide +kernel
theorem dX2_copyFrom_21 : decode cX2_copyFrom 21 = .ok (.iconst 0, 1) := by decide +kernel
theorem dX2_copyFrom_22 : decode cX2_copyFrom 22 = .ok (.aload_n 0, 1) := by decide +kernel
theorem dX2_copyFrom_23 : decode cX2_copyFrom 23 = .ok (.getfield 15, 3) := by decide +kernel
theorem dX2_copyFrom_26 : decode cX2_copyFrom 26 = .ok (.iconst 0, 1) := by decide +kernel
theorem dX2_copyFrom_27 : decode cX2_copyFrom 27 = .ok (.aload_n 1, 1) := by decide +kernel
theorem dX2_copyFrom_28 : decode cX2_copyFrom 28 = .ok (.getfield 21, 3) := by decide +kernel
theorem dX2_copyFrom_31 : decode cX2_copyFrom 31 = .ok (.invokestatic 30, 3) := by decide +kernel
theorem dX2_copyFrom_34 : decode cX2_copyFrom 34 = .ok (.aload_n 1, 1) := by decide +kernel
theorem dX2_copyFrom_35 : decode cX2_copyFrom 35 = .ok (.getfield 18, 3) := by decide +kernel
theorem dX2_copyFrom_38 : decode cX2_copyFrom 38 = .ok (.iconst 0, 1) := by decide +kernel
theorem dX2_copyFrom_39 : decode cX2_copyFrom 39 = .ok (.aload_n 0, 1) := by decide +kernel
theorem dX2_copyFrom_40 : decode cX2_copyFrom 40 = .ok (.getfield 18, 3) := by decide +kernel
theorem dX2_copyFrom_43 : decode cX2_copyFrom 43 = .ok (.iconst 0, 1) := by decide +kernel
theorem dX2_copyFrom_44 : decode cX2_copyFrom 44 = .ok (.aload_n 1, 1) := by decide +kernel
theorem dX2_copyFrom_45 : decode cX2_copyFrom 45 = .ok (.getfield 21, 3) := by decide +kernel
theorem dX2_copyFrom_48 : decode cX2_copyFrom 48 = .ok (.invokestatic 30, 3) := by decide +kernel
theorem dX2_copyFrom_51 : decode cX2_copyFrom 51 = .ok (.aload_n 0, 1) := by decide +kernel
theorem dX2_copyFrom_52 : decode cX2_copyFrom 52 = .ok (.aload_n 1, 1) := by decide +kernel
theorem dX2_copyFrom_53 : decode cX2_copyFrom 53 = .ok (.getfield 21, 3) := by decide +kernel
theorem dX2_copyFrom_56 : decode cX2_copyFrom 56 = .ok (.putfield 21, 3) := by decide +kernel
theorem dX2_copyFrom_59 : decode cX2_copyFrom 59 = .ok (.return_, 1) := by decide +kernel
end
section
theorem in_r1 : ∀ w ∈ wsL_law_r1, w ∈ wsL_law := fun _ h => List.mem_append_left _ (List.mem_append_left _ (List.mem_append_left _ (List.mem_append_left _ (List.mem_append_left _ (List.mem_append_left _ (List.mem_append_left _ (List.mem_append_left _ h)))))))
theorem in_r2 : ∀ w ∈ wsL_law_r2, w ∈ wsL_law := fun _ h => List.mem_append_left _ (List.mem_append_left _ (List.mem_append_left _ (List.mem_append_left _ (List.mem_append_left _ (List.mem_append_left _ (List.mem_append_left _ (List.mem_append_right _ (List.mem_append_left _ h))))))))
theorem in_r3 : ∀ w ∈ wsL_law_r3, w ∈ wsL_law := fun _ h => List.mem_append_left _ (List.mem_append_left _ (List.mem_append_left _ (List.mem_append_left _ (List.mem_append_left _ (List.mem_append_left _ (List.mem_append_left _ (List.mem_append_right _ (List.mem_append_right _ (List.mem_append_left _ h)))))))))
theorem in_r4 : ∀ w ∈ wsL_law_r4, w ∈ wsL_law := fun _ h => List.mem_append_left _ (List.mem_append_left _ (List.mem_append_left _ (List.mem_append_left _ (List.mem_append_left _ (List.mem_append_left _ (List.mem_append_left _ (List.mem_append_right _ (List.mem_append_right _ (List.mem_append_right _ (List.mem_append_left _ h))))))))))
theorem in_r5 : ∀ w ∈ wsL_law_r5, w ∈ wsL_law := fun _ h => List.mem_append_left _ (List.mem_append_left _ (List.mem_append_left _ (List.mem_append_left _ (List.mem_append_left _ (List.mem_append_left _ (List.mem_append_left _ (List.mem_append_right _ (List.mem_append_right _ (List.mem_append_right _ (List.mem_append_right _ (List.mem_append_left _ h)))))))))))
theorem in_r6 : ∀ w ∈ wsL_law_r6, w ∈ wsL_law := fun _ h => List.mem_append_left _ (List.mem_append_left _ (List.mem_append_left _ (List.mem_append_left _ (List.mem_append_left _ (List.mem_append_left _ (List.mem_append_left _ (List.mem_append_right _ (List.mem_append_right _ (List.mem_append_right _ (List.mem_append_right _ (List.mem_append_right _ (List.mem_append_left _ h))))))))))))
theorem in_r7 : ∀ w ∈ wsL_law_r7, w ∈ wsL_law := fun _ h => List.mem_append_left _ (List.mem_append_left _ (List.mem_append_left _ (List.mem_append_left _ (List.mem_append_left _ (List.mem_append_left _ (List.mem_append_left _ (List.mem_append_right _ (List.mem_append_right _ (List.mem_append_right _ (List.mem_append_right _ (List.mem_append_right _ (List.mem_append_right _ (List.mem_append_left _ h)))))))))))))
theorem in_r8 : ∀ w ∈ wsL_law_r8, w ∈ wsL_law := fun _ h => List.mem_append_left _ (List.mem_append_left _ (List.mem_append_left _ (List.mem_append_left _ (List.mem_append_left _ (List.mem_append_left _ (List.mem_append_left _ (List.mem_append_right _ (List.mem_append_right _ (List.mem_append_right _ (List.mem_append_right _ (List.mem_append_right _ (List.mem_append_right _ (List.mem_append_right _ (List.mem_append_left _ h))))))))))))))
theorem in_r9 : ∀ w ∈ wsL_law_r9, w ∈ wsL_law := fun _ h => List.mem_append_left _ (List.mem_append_left _ (List.mem_append_left _ (List.mem_append_left _ (List.mem_append_left _ (List.mem_append_left _ (List.mem_append_left _ (List.mem_append_right _ (List.mem_append_right _ (List.mem_append_right _ (List.mem_append_right _ (List.mem_append_right _ (List.mem_append_right _ (List.mem_append_right _ (List.mem_append_right _ (List.mem_append_left _ h)))))))))))))))
theorem in_r10 : ∀ w ∈ wsL_law_r10, w ∈ wsL_law := fun _ h => List.mem_append_left _ (List.mem_append_left _ (List.mem_append_left _ (List.mem_append_left _ (List.mem_append_left _ (List.mem_append_left _ (List.mem_append_left _ (List.mem_append_right _ (List.mem_append_right _ (List.mem_append_right _ (List.mem_append_right _ (List.mem_append_right _ (List.mem_append_right _ (List.mem_append_right _ (List.mem_append_right _ (List.mem_append_right _ (List.mem_append_left _ h))))))))))))))))
theorem in_r11 : ∀ w ∈ wsL_law_r11, w ∈ wsL_law := fun _ h => List.mem_append_left _ (List.mem_append_left _ (List.mem_append_left _ (List.mem_append_left _ (List.mem_append_left _ (List.mem_append_left _ (List.mem_append_left _ (List.mem_append_right _ (List.mem_append_right _ (List.mem_append_right _ (List.mem_append_right _ (List.mem_append_right _ (List.mem_append_right _ (List.mem_append_right _ (List.mem_append_right _ (List.mem_append_right _ (List.mem_append_right _ (List.mem_append_left _ h)))))))))))))))))
theorem in_r12 : ∀ w ∈ wsL_law_r12, w ∈ wsL_law := fun _ h => List.mem_append_left _ (List.mem_append_left _ (List.mem_append_left _ (List.mem_append_left _ (List.mem_append_left _ (List.mem_append_left _ (List.mem_append_left _ (List.mem_append_right _ (List.mem_append_right _ (List.mem_append_right _ (List.mem_append_right _ (List.mem_append_right _ (List.mem_append_right _ (List.mem_append_right _ (List.mem_append_right _ (List.mem_append_right _ (List.mem_append_right _ (List.mem_append_right _ (List.mem_append_left _ h))))))))))))))))))
theorem in_r13 : ∀ w ∈ wsL_law_r13, w ∈ wsL_law := fun _ h => List.mem_append_left _ (List.mem_append_left _ (List.mem_append_left _ (List.mem_append_left _ (List.mem_append_left _ (List.mem_append_left _ (List.mem_append_left _ (List.mem_append_right _ (List.mem_append_right _ (List.mem_append_right _ (List.mem_append_right _ (List.mem_append_right _ (List.mem_append_right _ (List.mem_append_right _ (List.mem_append_right _ (List.mem_append_right _ (List.mem_append_right _ (List.mem_append_right _ (List.mem_append_right _ (List.mem_append_left _ h)))))))))))))))))))
theorem in_r14 : ∀ w ∈ wsL_law_r14, w ∈ wsL_law := fun _ h => List.mem_append_left _ (List.mem_append_left _ (List.mem_append_left _ (List.mem_append_left _ (List.mem_append_left _ (List.mem_append_left _ (List.mem_append_left _ (List.mem_append_right _ (List.mem_append_right _ (List.mem_append_right _ (List.mem_append_right _ (List.mem_append_right _ (List.mem_append_right _ (List.mem_append_right _ (List.mem_append_right _ (List.mem_append_right _ (List.mem_append_right _ (List.mem_append_right _ (List.mem_append_right _ (List.mem_append_right _ (List.mem_append_left _ h))))))))))))))))))))
theorem in_r15 : ∀ w ∈ wsL_law_r15, w ∈ wsL_law := fun _ h => List.mem_append_left _ (List.mem_append_left _ (List.mem_append_left _ (List.mem_append_left _ (List.mem_append_left _ (List.mem_append_left _ (List.mem_append_left _ (List.mem_append_right _ (List.mem_append_right _ (List.mem_append_right _ (List.mem_append_right _ (List.mem_append_right _ (List.mem_append_right _ (List.mem_append_right _ (List.mem_append_right _ (List.mem_append_right _ (List.mem_append_right _ (List.mem_append_right _ (List.mem_append_right _ (List.mem_append_right _ (List.mem_append_right _ (List.mem_append_left _ h)))))))))))))))))))))
theorem in_r16 : ∀ w ∈ wsL_law_r16, w ∈ wsL_law := fun _ h => List.mem_append_left _ (List.mem_append_left _ (List.mem_append_left _ (List.mem_append_left _ (List.mem_append_left _ (List.mem_append_left _ (List.mem_append_left _ (List.mem_append_right _ (List.mem_append_right _ (List.mem_append_right _ (List.mem_append_right _ (List.mem_append_right _ (List.mem_append_right _ (List.mem_append_right _ (List.mem_append_right _ (List.mem_append_right _ (List.mem_append_right _ (List.mem_append_right _ (List.mem_append_right _ (List.mem_append_right _ (List.mem_append_right _ (List.mem_append_right _ (List.mem_append_left _ h))))))))))))))))))))))
theorem in_r17 : ∀ w ∈ wsL_law_r17, w ∈ wsL_law := fun _ h => List.mem_append_left _ (List.mem_append_left _ (List.mem_append_left _ (List.mem_append_left _ (List.mem_append_left _ (List.mem_append_left _ (List.mem_append_left _ (List.mem_append_right _ (List.mem_append_right _ (List.mem_append_right _ (List.mem_append_right _ (List.mem_append_right _ (List.mem_append_right _ (List.mem_append_right _ (List.mem_append_right _ (List.mem_append_right _ (List.mem_append_right _ (List.mem_append_right _ (List.mem_append_right _ (List.mem_append_right _ (List.mem_append_right _ (List.mem_append_right _ (List.mem_append_right _ (List.mem_append_left _ h)))))))))))))))))))))))
theorem in_r18 : ∀ w ∈ wsL_law_r18, w ∈ wsL_law := fun _ h => List.mem_append_left _ (List.mem_append_left _ (List.mem_append_left _ (List.mem_append_left _ (List.mem_append_left _ (List.mem_append_left _ (List.mem_append_left _ (List.mem_append_right _ (List.mem_append_right _ (List.mem_append_right _ (List.mem_append_right _ (List.mem_append_right _ (List.mem_append_right _ (List.mem_append_right _ (List.mem_append_right _ (List.mem_append_right _ (List.mem_append_right _ (List.mem_append_right _ (List.mem_append_right _ (List.mem_append_right _ (List.mem_append_right _ (List.mem_append_right _ (List.mem_append_right _ (List.mem_append_right _ (List.mem_append_left _ h))))))))))))))))))))))))
theorem in_r19 : ∀ w ∈ wsL_law_r19, w ∈ wsL_law := fun _ h => List.mem_append_left _ (List.mem_append_left _ (List.mem_append_left _ (List.mem_append_left _ (List.mem_append_left _ (List.mem_append_left _ (List.mem_append_left _ (List.mem_append_right _ (List.mem_append_right _ (List.mem_append_right _ (List.mem_append_right _ (List.mem_append_right _ (List.mem_append_right _ (List.mem_append_right _ (List.mem_append_right _ (List.mem_append_right _ (List.mem_append_right _ (List.mem_append_right _ (List.mem_append_right _ (List.mem_append_right _ (List.mem_append_right _ (List.mem_append_right _ (List.mem_append_right _ (List.mem_append_right _ (List.mem_append_right _ (List.mem_append_left _ h)))))))))))))))))))))))))
theorem in_r20 : ∀ w ∈ wsL_law_r20, w ∈ wsL_law := fun _ h => List.mem_append_left _ (List.mem_append_left _ (List.mem_append_left _ (List.mem_append_left _ (List.mem_append_left _ (List.mem_append_left _ (List.mem_append_left _ (List.mem_append_right _ (List.mem_append_right _ (List.mem_append_right _ (List.mem_append_right _ (List.mem_append_right _ (List.mem_append_right _ (List.mem_append_right _ (List.mem_append_right _ (List.mem_append_right _ (List.mem_append_right _ (List.mem_append_right _ (List.mem_append_right _ (List.mem_append_right _ (List.mem_append_right _ (List.mem_append_right _ (List.mem_append_right _ (List.mem_append_right _ (List.mem_append_right _ (List.mem_append_right _ (List.mem_append_left _ h))))))))))))))))))))))))))
theorem in_r21 : ∀ w ∈ wsL_law_r21, w ∈ wsL_law := fun _ h => List.mem_append_left _ (List.mem_append_left _ (List.mem_append_left _ (List.mem_append_left _ (List.mem_append_left _ (List.mem_append_left _ (List.mem_append_left _ (List.mem_append_right _ (List.mem_append_right _ (List.mem_append_right _ (List.mem_append_right _ (List.mem_append_right _ (List.mem_append_right _ (List.mem_append_right _ (List.mem_append_right _ (List.mem_append_right _ (List.mem_append_right _ (List.mem_append_right _ (List.mem_append_right _ (List.mem_append_right _ (List.mem_append_right _ (List.mem_append_right _ (List.mem_append_right _ (List.mem_append_right _ (List.mem_append_right _ (List.mem_append_right _ (List.mem_append_right _ (List.mem_append_left _ h)))))))))))))))))))))))))))
theorem in_r22 : ∀ w ∈ wsL_law_r22, w ∈ wsL_law := fun _ h => List.mem_append_left _ (List.mem_append_left _ (List.mem_append_left _ (List.mem_append_left _ (List.mem_append_left _ (List.mem_append_left _ (List.mem_append_left _ (List.mem_append_right _ (List.mem_append_right _ (List.mem_append_right _ (List.mem_append_right _ (List.mem_append_right _ (List.mem_append_right _ (List.mem_append_right _ (List.mem_append_right _ (List.mem_append_right _ (List.mem_append_right _ (List.mem_append_right _ (List.mem_append_right _ (List.mem_append_right _ (List.mem_append_right _ (List.mem_append_right _ (List.mem_append_right _ (List.mem_append_right _ (List.mem_append_right _ (List.mem_append_right _ (List.mem_append_right _ (List.mem_append_right _ (List.mem_append_left _ h))))))))))))))))))))))))))))
theorem in_r23 : ∀ w ∈ wsL_law_r23, w ∈ wsL_law := fun _ h => List.mem_append_left _ (List.mem_append_left _ (List.mem_append_left _ (List.mem_append_left _ (List.mem_append_left _ (List.mem_append_left _ (List.mem_append_left _ (List.mem_append_right _ (List.mem_append_right _ (List.mem_append_right _ (List.mem_append_right _ (List.mem_append_right _ (List.mem_append_right _ (List.mem_append_right _ (List.mem_append_right _ (List.mem_append_right _ (List.mem_append_right _ (List.mem_append_right _ (List.mem_append_right _ (List.mem_append_right _ (List.mem_append_right _ (List.mem_append_right _ (List.mem_append_right _ (List.mem_append_right _ (List.mem_append_right _ (List.mem_append_right _ (List.mem_append_right _ (List.mem_append_right _ (List.mem_append_right _ (List.mem_append_left _ h)))))))))))))))))))))))))))))
theorem in_r24 : ∀ w ∈ wsL_law_r24, w ∈ wsL_law := fun _ h => List.mem_append_left _ (List.mem_append_left _ (List.mem_append_left _ (List.mem_append_left _ (List.mem_append_left _ (List.mem_append_left _ (List.mem_append_left _ (List.mem_append_right _ (List.mem_append_right _ (List.mem_append_right _ (List.mem_append_right _ (List.mem_append_right _ (List.mem_append_right _ (List.mem_append_right _ (List.mem_append_right _ (List.mem_append_right _ (List.mem_append_right _ (List.mem_append_right _ (List.mem_append_right _ (List.mem_append_right _ (List.mem_append_right _ (List.mem_append_right _ (List.mem_append_right _ (List.mem_append_right _ (List.mem_append_right _ (List.mem_append_right _ (List.mem_append_right _ (List.mem_append_right _ (List.mem_append_right _ (List.mem_append_right _ (List.mem_append_left _ h))))))))))))))))))))))))))))))
theorem in_r25 : ∀ w ∈ wsL_law_r25, w ∈ wsL_law := fun _ h => List.mem_append_left _ (List.mem_append_left _ (List.mem_append_left _ (List.mem_append_left _ (List.mem_append_left _ (List.mem_append_left _ (List.mem_append_left _ (List.mem_append_right _ (List.mem_append_right _ (List.mem_append_right _ (List.mem_append_right _ (List.mem_append_right _ (List.mem_append_right _ (List.mem_append_right _ (List.mem_append_right _ (List.mem_append_right _ (List.mem_append_right _ (List.mem_append_right _ (List.mem_append_right _ (List.mem_append_right _ (List.mem_append_right _ (List.mem_append_right _ (List.mem_append_right _ (List.mem_append_right _ (List.mem_append_right _ (List.mem_append_right _ (List.mem_append_right _ (List.mem_append_right _ (List.mem_append_right _ (List.mem_append_right _ (List.mem_append_right _ (List.mem_append_left _ h)))))))))))))))))))))))))))))))
theorem in_r26 : ∀ w ∈ wsL_law_r26, w ∈ wsL_law := fun _ h => List.mem_append_left _ (List.mem_append_left _ (List.mem_append_left _ (List.mem_append_left _ (List.mem_append_left _ (List.mem_append_left _ (List.mem_append_left _ (List.mem_append_right _ (List.mem_append_right _ (List.mem_append_right _ (List.mem_append_right _ (List.mem_append_right _ (List.mem_append_right _ (List.mem_append_right _ (List.mem_append_right _ (List.mem_append_right _ (List.mem_append_right _ (List.mem_append_right _ (List.mem_append_right _ (List.mem_append_right _ (List.mem_append_right _ (List.mem_append_right _ (List.mem_append_right _ (List.mem_append_right _ (List.mem_append_right _ (List.mem_append_right _ (List.mem_append_right _ (List.mem_append_right _ (List.mem_append_right _ (List.mem_append_right _ (List.mem_append_right _ (List.mem_append_right _ (h))))))))))))))))))))))))))))))))
theorem wd_ck_L_7 : Cond.classLink RL 7 RX4 ∈ wsL_law := in_r1 _ (List.mem_of_getElem? (i := 0) rfl)
theorem wd_ins_X4 : Cond.instantiable RX4 6 ∈ wsL_law := in_r1 _ (List.mem_of_getElem? (i := 1) rfl)
theorem wd_ini_X4 : Cond.initialized RX4 ∈ wsL_law := in_r1 _ (List.mem_of_getElem? (i := 2) rfl)
theorem wd_ck_L_10 : Cond.classLink RL 10 RX5 ∈ wsL_law := in_r1 _ (List.mem_of_getElem? (i := 3) rfl)
theorem wd_ins_X5 : Cond.instantiable RX5 6 ∈ wsL_law := in_r1 _ (List.mem_of_getElem? (i := 4) rfl)
theorem wd_ini_X5 : Cond.initialized RX5 ∈ wsL_law := in_r1 _ (List.mem_of_getElem? (i := 5) rfl)
theorem wd_ml_L_9 : Cond.methodLink RL 9 yX4_init ∈ wsL_law := in_r1 _ (List.mem_of_getElem? (i := 6) rfl)
theorem wd_im_X4_init : Cond.instanceMethod yX4_init ∈ wsL_law := in_r1 _ (List.mem_of_getElem? (i := 7) rfl)
theorem wd_co_X4_init : Cond.code yX4_init cX4_init 2 none ∈ wsL_law := in_r1 _ (List.mem_of_getElem? (i := 8) rfl)
theorem wd_ml_X4_1 : Cond.methodLink RX4 1 objectInit ∈ wsL_law := in_r1 _ (List.mem_of_getElem? (i := 9) rfl)
theorem wd_im_objectInit : Cond.instanceMethod objectInit ∈ wsL_law := in_r1 _ (List.mem_of_getElem? (i := 10) rfl)
theorem wd_co_objectInit : Cond.code objectInit ⟨#[0xb1]⟩ 1 none ∈ wsL_law := in_r1 _ (List.mem_of_getElem? (i := 11) rfl)
theorem wd_ck_X4_7 : Cond.classLink RX4 7 RX3 ∈ wsL_law := in_r1 _ (List.mem_of_getElem? (i := 12) rfl)
theorem wd_ins_X3 : Cond.instantiable RX3 12 ∈ wsL_law := in_r1 _ (List.mem_of_getElem? (i := 13) rfl)
theorem wd_ini_X3 : Cond.initialized RX3 ∈ wsL_law := in_r1 _ (List.mem_of_getElem? (i := 14) rfl)
theorem wd_fk_X4_10 : Cond.fieldLink RX4 10 "SafeParts" "world" "LSafeParts$World;" ∈ wsL_law := in_r1 _ (List.mem_of_getElem? (i := 15) rfl)
theorem wd_fk_X4_16 : Cond.fieldLink RX4 16 "SafeParts" "trial" "LSafeParts$World;" ∈ wsL_law := in_r1 _ (List.mem_of_getElem? (i := 16) rfl)
theorem wd_fk_X4_19 : Cond.fieldLink RX4 19 "SafeParts" "images" "[LSafeParts$World;" ∈ wsL_law := in_r1 _ (List.mem_of_getElem? (i := 17) rfl)
theorem wd_ac_boolean : Cond.arrayClass .boolean ∈ wsL_law := in_r1 _ (List.mem_of_getElem? (i := 18) rfl)
theorem wd_fk_X4_23 : Cond.fieldLink RX4 23 "SafeParts" "isKept" "[Z" ∈ wsL_law := in_r1 _ (List.mem_of_getElem? (i := 19) rfl)
theorem wd_ck_X4_27 : Cond.classLink RX4 27 RX1 ∈ wsL_law := in_r1 _ (List.mem_of_getElem? (i := 20) rfl)
theorem wd_ins_X1 : Cond.instantiable RX1 5 ∈ wsL_law := in_r1 _ (List.mem_of_getElem? (i := 21) rfl)
theorem wd_ini_X1 : Cond.initialized RX1 ∈ wsL_law := in_r1 _ (List.mem_of_getElem? (i := 22) rfl)
theorem wd_fk_X4_30 : Cond.fieldLink RX4 30 "SafeParts" "log" "LSafeParts$Log;" ∈ wsL_law := in_r1 _ (List.mem_of_getElem? (i := 23) rfl)
theorem wd_ac_int : Cond.arrayClass .int ∈ wsL_law := in_r2 _ (List.mem_of_getElem? (i := 0) rfl)
theorem wd_fk_X4_34 : Cond.fieldLink RX4 34 "SafeParts" "leastTo" "[I" ∈ wsL_law := in_r2 _ (List.mem_of_getElem? (i := 1) rfl)
theorem wd_ml_X4_9 : Cond.methodLink RX4 9 yX3_init ∈ wsL_law := in_r2 _ (List.mem_of_getElem? (i := 2) rfl)
theorem wd_im_X3_init : Cond.instanceMethod yX3_init ∈ wsL_law := in_r2 _ (List.mem_of_getElem? (i := 3) rfl)
theorem wd_co_X3_init : Cond.code yX3_init cX3_init 2 none ∈ wsL_law := in_r2 _ (List.mem_of_getElem? (i := 4) rfl)
theorem wd_ml_X3_3 : Cond.methodLink RX3 3 objectInit ∈ wsL_law := in_r2 _ (List.mem_of_getElem? (i := 5) rfl)
theorem wd_ck_X3_9 : Cond.classLink RX3 9 RX0 ∈ wsL_law := in_r2 _ (List.mem_of_getElem? (i := 6) rfl)
theorem wd_ins_X0 : Cond.instantiable RX0 8 ∈ wsL_law := in_r2 _ (List.mem_of_getElem? (i := 7) rfl)
theorem wd_ini_X0 : Cond.initialized RX0 ∈ wsL_law := in_r2 _ (List.mem_of_getElem? (i := 8) rfl)
theorem wd_fk_X3_12 : Cond.fieldLink RX3 12 "SafeParts$World" "channels" "LSafeParts$Channels;" ∈ wsL_law := in_r2 _ (List.mem_of_getElem? (i := 9) rfl)
theorem wd_ck_X3_18 : Cond.classLink RX3 18 RX2 ∈ wsL_law := in_r2 _ (List.mem_of_getElem? (i := 10) rfl)
theorem wd_fk_X3_20 : Cond.fieldLink RX3 20 "SafeParts$World" "waiting" "[LSafeParts$Waiting;" ∈ wsL_law := in_r2 _ (List.mem_of_getElem? (i := 11) rfl)
theorem wd_fk_X3_24 : Cond.fieldLink RX3 24 "SafeParts$World" "count" "[I" ∈ wsL_law := in_r2 _ (List.mem_of_getElem? (i := 12) rfl)
theorem wd_fk_X3_28 : Cond.fieldLink RX3 28 "SafeParts$World" "sum" "[I" ∈ wsL_law := in_r2 _ (List.mem_of_getElem? (i := 13) rfl)
theorem wd_fk_X3_31 : Cond.fieldLink RX3 31 "SafeParts$World" "now" "[I" ∈ wsL_law := in_r2 _ (List.mem_of_getElem? (i := 14) rfl)
theorem wd_fk_X3_34 : Cond.fieldLink RX3 34 "SafeParts$World" "formNow" "I" ∈ wsL_law := in_r2 _ (List.mem_of_getElem? (i := 15) rfl)
theorem wd_ins_X2 : Cond.instantiable RX2 4 ∈ wsL_law := in_r2 _ (List.mem_of_getElem? (i := 16) rfl)
theorem wd_ini_X2 : Cond.initialized RX2 ∈ wsL_law := in_r2 _ (List.mem_of_getElem? (i := 17) rfl)
theorem wd_im_X0_init : Cond.instanceMethod yX0_init ∈ wsL_law := in_r2 _ (List.mem_of_getElem? (i := 18) rfl)
theorem wd_co_X0_init : Cond.code yX0_init cX0_init 1 none ∈ wsL_law := in_r2 _ (List.mem_of_getElem? (i := 19) rfl)
theorem wd_ml_X0_3 : Cond.methodLink RX0 3 objectInit ∈ wsL_law := in_r2 _ (List.mem_of_getElem? (i := 20) rfl)
theorem wd_fk_X0_9 : Cond.fieldLink RX0 9 "SafeParts$Channels" "from" "[I" ∈ wsL_law := in_r2 _ (List.mem_of_getElem? (i := 21) rfl)
theorem wd_fk_X0_15 : Cond.fieldLink RX0 15 "SafeParts$Channels" "to" "[I" ∈ wsL_law := in_r2 _ (List.mem_of_getElem? (i := 22) rfl)
theorem wd_fk_X0_18 : Cond.fieldLink RX0 18 "SafeParts$Channels" "promise" "[I" ∈ wsL_law := in_r2 _ (List.mem_of_getElem? (i := 23) rfl)
theorem wd_fk_X0_21 : Cond.fieldLink RX0 21 "SafeParts$Channels" "delay" "[I" ∈ wsL_law := in_r3 _ (List.mem_of_getElem? (i := 0) rfl)
theorem wd_fk_X0_24 : Cond.fieldLink RX0 24 "SafeParts$Channels" "clock" "[I" ∈ wsL_law := in_r3 _ (List.mem_of_getElem? (i := 1) rfl)
theorem wd_fk_X0_27 : Cond.fieldLink RX0 27 "SafeParts$Channels" "letters" "[I" ∈ wsL_law := in_r3 _ (List.mem_of_getElem? (i := 2) rfl)
theorem wd_fk_X0_30 : Cond.fieldLink RX0 30 "SafeParts$Channels" "empties" "[I" ∈ wsL_law := in_r3 _ (List.mem_of_getElem? (i := 3) rfl)
theorem wd_im_X2_init : Cond.instanceMethod yX2_init ∈ wsL_law := in_r3 _ (List.mem_of_getElem? (i := 4) rfl)
theorem wd_co_X2_init : Cond.code yX2_init cX2_init 1 none ∈ wsL_law := in_r3 _ (List.mem_of_getElem? (i := 5) rfl)
theorem wd_ml_X2_3 : Cond.methodLink RX2 3 objectInit ∈ wsL_law := in_r3 _ (List.mem_of_getElem? (i := 6) rfl)
theorem wd_fk_X2_9 : Cond.fieldLink RX2 9 "SafeParts$Waiting" "time" "[I" ∈ wsL_law := in_r3 _ (List.mem_of_getElem? (i := 7) rfl)
theorem wd_fk_X2_15 : Cond.fieldLink RX2 15 "SafeParts$Waiting" "value" "[I" ∈ wsL_law := in_r3 _ (List.mem_of_getElem? (i := 8) rfl)
theorem wd_fk_X2_18 : Cond.fieldLink RX2 18 "SafeParts$Waiting" "way" "[I" ∈ wsL_law := in_r3 _ (List.mem_of_getElem? (i := 9) rfl)
theorem wd_im_X1_init : Cond.instanceMethod yX1_init ∈ wsL_law := in_r3 _ (List.mem_of_getElem? (i := 10) rfl)
theorem wd_co_X1_init : Cond.code yX1_init cX1_init 1 none ∈ wsL_law := in_r3 _ (List.mem_of_getElem? (i := 11) rfl)
theorem wd_ml_X1_3 : Cond.methodLink RX1 3 objectInit ∈ wsL_law := in_r3 _ (List.mem_of_getElem? (i := 12) rfl)
theorem wd_fk_X1_9 : Cond.fieldLink RX1 9 "SafeParts$Log" "part" "[I" ∈ wsL_law := in_r3 _ (List.mem_of_getElem? (i := 13) rfl)
theorem wd_fk_X1_15 : Cond.fieldLink RX1 15 "SafeParts$Log" "time" "[I" ∈ wsL_law := in_r3 _ (List.mem_of_getElem? (i := 14) rfl)
theorem wd_fk_X1_18 : Cond.fieldLink RX1 18 "SafeParts$Log" "value" "[I" ∈ wsL_law := in_r3 _ (List.mem_of_getElem? (i := 15) rfl)
theorem wd_fk_X1_21 : Cond.fieldLink RX1 21 "SafeParts$Log" "round" "[I" ∈ wsL_law := in_r3 _ (List.mem_of_getElem? (i := 16) rfl)
theorem wd_ml_L_12 : Cond.methodLink RL 12 yX5_init ∈ wsL_law := in_r3 _ (List.mem_of_getElem? (i := 17) rfl)
theorem wd_im_X5_init : Cond.instanceMethod yX5_init ∈ wsL_law := in_r3 _ (List.mem_of_getElem? (i := 18) rfl)
theorem wd_co_X5_init : Cond.code yX5_init cX5_init 1 none ∈ wsL_law := in_r3 _ (List.mem_of_getElem? (i := 19) rfl)
theorem wd_ml_X5_1 : Cond.methodLink RX5 1 objectInit ∈ wsL_law := in_r3 _ (List.mem_of_getElem? (i := 20) rfl)
theorem wd_fk_X5_7 : Cond.fieldLink RX5 7 "SafePartsModel" "w" "[I" ∈ wsL_law := in_r3 _ (List.mem_of_getElem? (i := 21) rfl)
theorem wd_fk_X5_13 : Cond.fieldLink RX5 13 "SafePartsModel" "isKept" "[Z" ∈ wsL_law := in_r3 _ (List.mem_of_getElem? (i := 22) rfl)
theorem wd_fk_X5_17 : Cond.fieldLink RX5 17 "SafePartsModel" "records" "[I" ∈ wsL_law := in_r3 _ (List.mem_of_getElem? (i := 23) rfl)
theorem wd_fk_X5_20 : Cond.fieldLink RX5 20 "SafePartsModel" "far" "[I" ∈ wsL_law := in_r4 _ (List.mem_of_getElem? (i := 0) rfl)
theorem wd_ml_L_13 : Cond.methodLink RL 13 yX4_parts ∈ wsL_law := in_r4 _ (List.mem_of_getElem? (i := 1) rfl)
theorem wd_im_X4_parts : Cond.instanceMethod yX4_parts ∈ wsL_law := in_r4 _ (List.mem_of_getElem? (i := 2) rfl)
theorem wd_se_X4_X4_parts : Cond.selects RX4 yX4_parts yX4_parts ∈ wsL_law := in_r4 _ (List.mem_of_getElem? (i := 3) rfl)
theorem wd_co_X4_parts : Cond.code yX4_parts cX4_parts 4 (some .int) ∈ wsL_law := in_r4 _ (List.mem_of_getElem? (i := 4) rfl)
theorem wd_ct_X4_42 : Cond.constant RX4 42 (-1000000002) ∈ wsL_law := in_r4 _ (List.mem_of_getElem? (i := 5) rfl)
theorem wd_fk_X4_43 : Cond.fieldLink RX4 43 "SafeParts$World" "workedOn" "I" ∈ wsL_law := in_r4 _ (List.mem_of_getElem? (i := 6) rfl)
theorem wd_ml_X4_38 : Cond.methodLink RX4 38 yX4_isOutside ∈ wsL_law := in_r4 _ (List.mem_of_getElem? (i := 7) rfl)
theorem wd_st_X4_isOutside : Cond.static yX4_isOutside ∈ wsL_law := in_r4 _ (List.mem_of_getElem? (i := 8) rfl)
theorem wd_co_X4_isOutside : Cond.code yX4_isOutside cX4_isOutside 3 (some .boolean) ∈ wsL_law := in_r4 _ (List.mem_of_getElem? (i := 9) rfl)
theorem wd_ml_X4_47 : Cond.methodLink RX4 47 yX3_beginAnew ∈ wsL_law := in_r4 _ (List.mem_of_getElem? (i := 10) rfl)
theorem wd_im_X3_beginAnew : Cond.instanceMethod yX3_beginAnew ∈ wsL_law := in_r4 _ (List.mem_of_getElem? (i := 11) rfl)
theorem wd_se_X3_X3_beginAnew : Cond.selects RX3 yX3_beginAnew yX3_beginAnew ∈ wsL_law := in_r4 _ (List.mem_of_getElem? (i := 12) rfl)
theorem wd_co_X3_beginAnew : Cond.code yX3_beginAnew cX3_beginAnew 3 none ∈ wsL_law := in_r4 _ (List.mem_of_getElem? (i := 13) rfl)
theorem wd_fk_X3_39 : Cond.fieldLink RX3 39 "SafeParts$Channels" "size" "I" ∈ wsL_law := in_r4 _ (List.mem_of_getElem? (i := 14) rfl)
theorem wd_fk_X3_42 : Cond.fieldLink RX3 42 "SafeParts$Waiting" "size" "I" ∈ wsL_law := in_r4 _ (List.mem_of_getElem? (i := 15) rfl)
theorem wd_fk_X3_43 : Cond.fieldLink RX3 43 "SafeParts$World" "partCount" "I" ∈ wsL_law := in_r4 _ (List.mem_of_getElem? (i := 16) rfl)
theorem wd_fk_X3_46 : Cond.fieldLink RX3 46 "SafeParts$World" "workedOn" "I" ∈ wsL_law := in_r4 _ (List.mem_of_getElem? (i := 17) rfl)
theorem wd_fk_X3_49 : Cond.fieldLink RX3 49 "SafeParts$World" "emptyLetters" "I" ∈ wsL_law := in_r4 _ (List.mem_of_getElem? (i := 18) rfl)
theorem wd_fk_X3_52 : Cond.fieldLink RX3 52 "SafeParts$World" "rounds" "I" ∈ wsL_law := in_r4 _ (List.mem_of_getElem? (i := 19) rfl)
theorem wd_fk_X3_55 : Cond.fieldLink RX3 55 "SafeParts$World" "timesLetGo" "I" ∈ wsL_law := in_r4 _ (List.mem_of_getElem? (i := 20) rfl)
theorem wd_fk_X3_58 : Cond.fieldLink RX3 58 "SafeParts$World" "toldByHand" "I" ∈ wsL_law := in_r4 _ (List.mem_of_getElem? (i := 21) rfl)
theorem wd_ml_X4_51 : Cond.methodLink RX4 51 yX1_clear ∈ wsL_law := in_r4 _ (List.mem_of_getElem? (i := 22) rfl)
theorem wd_im_X1_clear : Cond.instanceMethod yX1_clear ∈ wsL_law := in_r4 _ (List.mem_of_getElem? (i := 23) rfl)
theorem wd_se_X1_X1_clear : Cond.selects RX1 yX1_clear yX1_clear ∈ wsL_law := in_r5 _ (List.mem_of_getElem? (i := 0) rfl)
theorem wd_co_X1_clear : Cond.code yX1_clear cX1_clear 1 none ∈ wsL_law := in_r5 _ (List.mem_of_getElem? (i := 1) rfl)
theorem wd_fk_X1_24 : Cond.fieldLink RX1 24 "SafeParts$Log" "size" "I" ∈ wsL_law := in_r5 _ (List.mem_of_getElem? (i := 2) rfl)
theorem wd_ml_L_17 : Cond.methodLink RL 17 yX5_parts ∈ wsL_law := in_r5 _ (List.mem_of_getElem? (i := 3) rfl)
theorem wd_im_X5_parts : Cond.instanceMethod yX5_parts ∈ wsL_law := in_r5 _ (List.mem_of_getElem? (i := 4) rfl)
theorem wd_se_X5_X5_parts : Cond.selects RX5 yX5_parts yX5_parts ∈ wsL_law := in_r5 _ (List.mem_of_getElem? (i := 5) rfl)
theorem wd_co_X5_parts : Cond.code yX5_parts cX5_parts 5 (some .int) ∈ wsL_law := in_r5 _ (List.mem_of_getElem? (i := 6) rfl)
theorem wd_cl_X5_27 : Cond.constantLong RX5 27 (6) ∈ wsL_law := in_r5 _ (List.mem_of_getElem? (i := 7) rfl)
theorem wd_ct_X5_29 : Cond.constant RX5 29 (-1000000002) ∈ wsL_law := in_r5 _ (List.mem_of_getElem? (i := 8) rfl)
theorem wd_fk_X5_30 : Cond.fieldLink RX5 30 "SafePartsModel" "entries" "I" ∈ wsL_law := in_r5 _ (List.mem_of_getElem? (i := 9) rfl)
theorem wd_ml_X5_23 : Cond.methodLink RX5 23 yX5_in ∈ wsL_law := in_r5 _ (List.mem_of_getElem? (i := 10) rfl)
theorem wd_st_X5_in : Cond.static yX5_in ∈ wsL_law := in_r5 _ (List.mem_of_getElem? (i := 11) rfl)
theorem wd_co_X5_in : Cond.code yX5_in cX5_in 6 (some .boolean) ∈ wsL_law := in_r5 _ (List.mem_of_getElem? (i := 12) rfl)
theorem wd_ml_L_18 : Cond.methodLink RL 18 yX4_channel ∈ wsL_law := in_r5 _ (List.mem_of_getElem? (i := 13) rfl)
theorem wd_im_X4_channel : Cond.instanceMethod yX4_channel ∈ wsL_law := in_r5 _ (List.mem_of_getElem? (i := 14) rfl)
theorem wd_se_X4_X4_channel : Cond.selects RX4 yX4_channel yX4_channel ∈ wsL_law := in_r5 _ (List.mem_of_getElem? (i := 15) rfl)
theorem wd_co_X4_channel : Cond.code yX4_channel cX4_channel 5 (some .int) ∈ wsL_law := in_r5 _ (List.mem_of_getElem? (i := 16) rfl)
theorem wd_ct_X4_58 : Cond.constant RX4 58 (-1000000001) ∈ wsL_law := in_r5 _ (List.mem_of_getElem? (i := 17) rfl)
theorem wd_fk_X4_59 : Cond.fieldLink RX4 59 "SafeParts$World" "channels" "LSafeParts$Channels;" ∈ wsL_law := in_r5 _ (List.mem_of_getElem? (i := 18) rfl)
theorem wd_ct_X4_73 : Cond.constant RX4 73 (-1000000003) ∈ wsL_law := in_r5 _ (List.mem_of_getElem? (i := 19) rfl)
theorem wd_fk_X4_74 : Cond.fieldLink RX4 74 "SafeParts$Channels" "size" "I" ∈ wsL_law := in_r5 _ (List.mem_of_getElem? (i := 20) rfl)
theorem wd_ct_X4_77 : Cond.constant RX4 77 (-1000000004) ∈ wsL_law := in_r5 _ (List.mem_of_getElem? (i := 21) rfl)
theorem wd_ml_X4_54 : Cond.methodLink RX4 54 yX4_areNotTwoParts ∈ wsL_law := in_r5 _ (List.mem_of_getElem? (i := 22) rfl)
theorem wd_im_X4_areNotTwoParts : Cond.instanceMethod yX4_areNotTwoParts ∈ wsL_law := in_r5 _ (List.mem_of_getElem? (i := 23) rfl)
theorem wd_se_X4_X4_areNotTwoParts : Cond.selects RX4 yX4_areNotTwoParts yX4_areNotTwoParts ∈ wsL_law := in_r6 _ (List.mem_of_getElem? (i := 0) rfl)
theorem wd_co_X4_areNotTwoParts : Cond.code yX4_areNotTwoParts cX4_areNotTwoParts 3 (some .boolean) ∈ wsL_law := in_r6 _ (List.mem_of_getElem? (i := 1) rfl)
theorem wd_ml_X4_143 : Cond.methodLink RX4 143 yX4_isNoPart ∈ wsL_law := in_r6 _ (List.mem_of_getElem? (i := 2) rfl)
theorem wd_im_X4_isNoPart : Cond.instanceMethod yX4_isNoPart ∈ wsL_law := in_r6 _ (List.mem_of_getElem? (i := 3) rfl)
theorem wd_se_X4_X4_isNoPart : Cond.selects RX4 yX4_isNoPart yX4_isNoPart ∈ wsL_law := in_r6 _ (List.mem_of_getElem? (i := 4) rfl)
theorem wd_co_X4_isNoPart : Cond.code yX4_isNoPart cX4_isNoPart 2 (some .boolean) ∈ wsL_law := in_r6 _ (List.mem_of_getElem? (i := 5) rfl)
theorem wd_fk_X4_93 : Cond.fieldLink RX4 93 "SafeParts$World" "partCount" "I" ∈ wsL_law := in_r6 _ (List.mem_of_getElem? (i := 6) rfl)
theorem wd_ml_X4_63 : Cond.methodLink RX4 63 yX0_find ∈ wsL_law := in_r6 _ (List.mem_of_getElem? (i := 7) rfl)
theorem wd_im_X0_find : Cond.instanceMethod yX0_find ∈ wsL_law := in_r6 _ (List.mem_of_getElem? (i := 8) rfl)
theorem wd_se_X0_X0_find : Cond.selects RX0 yX0_find yX0_find ∈ wsL_law := in_r6 _ (List.mem_of_getElem? (i := 9) rfl)
theorem wd_co_X0_find : Cond.code yX0_find cX0_find 4 (some .int) ∈ wsL_law := in_r6 _ (List.mem_of_getElem? (i := 10) rfl)
theorem wd_fk_X0_33 : Cond.fieldLink RX0 33 "SafeParts$Channels" "size" "I" ∈ wsL_law := in_r6 _ (List.mem_of_getElem? (i := 11) rfl)
theorem wd_ml_X4_69 : Cond.methodLink RX4 69 yX3_roundsAndLetGo ∈ wsL_law := in_r6 _ (List.mem_of_getElem? (i := 12) rfl)
theorem wd_im_X3_roundsAndLetGo : Cond.instanceMethod yX3_roundsAndLetGo ∈ wsL_law := in_r6 _ (List.mem_of_getElem? (i := 13) rfl)
theorem wd_se_X3_X3_roundsAndLetGo : Cond.selects RX3 yX3_roundsAndLetGo yX3_roundsAndLetGo ∈ wsL_law := in_r6 _ (List.mem_of_getElem? (i := 14) rfl)
theorem wd_co_X3_roundsAndLetGo : Cond.code yX3_roundsAndLetGo cX3_roundsAndLetGo 1 (some .int) ∈ wsL_law := in_r6 _ (List.mem_of_getElem? (i := 15) rfl)
theorem wd_ml_X4_78 : Cond.methodLink RX4 78 yX0_add ∈ wsL_law := in_r6 _ (List.mem_of_getElem? (i := 16) rfl)
theorem wd_im_X0_add : Cond.instanceMethod yX0_add ∈ wsL_law := in_r6 _ (List.mem_of_getElem? (i := 17) rfl)
theorem wd_se_X0_X0_add : Cond.selects RX0 yX0_add yX0_add ∈ wsL_law := in_r6 _ (List.mem_of_getElem? (i := 18) rfl)
theorem wd_co_X0_add : Cond.code yX0_add cX0_add 6 (some .int) ∈ wsL_law := in_r6 _ (List.mem_of_getElem? (i := 19) rfl)
theorem wd_ml_L_22 : Cond.methodLink RL 22 yX5_channel ∈ wsL_law := in_r6 _ (List.mem_of_getElem? (i := 20) rfl)
theorem wd_im_X5_channel : Cond.instanceMethod yX5_channel ∈ wsL_law := in_r6 _ (List.mem_of_getElem? (i := 21) rfl)
theorem wd_se_X5_X5_channel : Cond.selects RX5 yX5_channel yX5_channel ∈ wsL_law := in_r6 _ (List.mem_of_getElem? (i := 22) rfl)
theorem wd_co_X5_channel : Cond.code yX5_channel cX5_channel 6 (some .int) ∈ wsL_law := in_r6 _ (List.mem_of_getElem? (i := 23) rfl)
theorem wd_ct_X5_42 : Cond.constant RX5 42 (-1000000001) ∈ wsL_law := in_r7 _ (List.mem_of_getElem? (i := 0) rfl)
theorem wd_cl_X5_43 : Cond.constantLong RX5 43 (99) ∈ wsL_law := in_r7 _ (List.mem_of_getElem? (i := 1) rfl)
theorem wd_ct_X5_48 : Cond.constant RX5 48 (-1000000003) ∈ wsL_law := in_r7 _ (List.mem_of_getElem? (i := 2) rfl)
theorem wd_ct_X5_49 : Cond.constant RX5 49 (-1000000004) ∈ wsL_law := in_r7 _ (List.mem_of_getElem? (i := 3) rfl)
theorem wd_ml_X5_38 : Cond.methodLink RX5 38 yX5_isPart ∈ wsL_law := in_r7 _ (List.mem_of_getElem? (i := 4) rfl)
theorem wd_im_X5_isPart : Cond.instanceMethod yX5_isPart ∈ wsL_law := in_r7 _ (List.mem_of_getElem? (i := 5) rfl)
theorem wd_se_X5_X5_isPart : Cond.selects RX5 yX5_isPart yX5_isPart ∈ wsL_law := in_r7 _ (List.mem_of_getElem? (i := 6) rfl)
theorem wd_co_X5_isPart : Cond.code yX5_isPart cX5_isPart 2 (some .boolean) ∈ wsL_law := in_r7 _ (List.mem_of_getElem? (i := 7) rfl)
theorem wd_ml_X5_45 : Cond.methodLink RX5 45 yX5_wayOf ∈ wsL_law := in_r7 _ (List.mem_of_getElem? (i := 8) rfl)
theorem wd_im_X5_wayOf : Cond.instanceMethod yX5_wayOf ∈ wsL_law := in_r7 _ (List.mem_of_getElem? (i := 9) rfl)
theorem wd_se_X5_X5_wayOf : Cond.selects RX5 yX5_wayOf yX5_wayOf ∈ wsL_law := in_r7 _ (List.mem_of_getElem? (i := 10) rfl)
theorem wd_co_X5_wayOf : Cond.code yX5_wayOf cX5_wayOf 4 (some .int) ∈ wsL_law := in_r7 _ (List.mem_of_getElem? (i := 11) rfl)
theorem wd_ml_X5_34 : Cond.methodLink RX5 34 yX5_at ∈ wsL_law := in_r7 _ (List.mem_of_getElem? (i := 12) rfl)
theorem wd_st_X5_at : Cond.static yX5_at ∈ wsL_law := in_r7 _ (List.mem_of_getElem? (i := 13) rfl)
theorem wd_co_X5_at : Cond.code yX5_at cX5_at 2 (some .int) ∈ wsL_law := in_r7 _ (List.mem_of_getElem? (i := 14) rfl)
theorem wd_ml_L_23 : Cond.methodLink RL 23 yX4_event ∈ wsL_law := in_r7 _ (List.mem_of_getElem? (i := 15) rfl)
theorem wd_im_X4_event : Cond.instanceMethod yX4_event ∈ wsL_law := in_r7 _ (List.mem_of_getElem? (i := 16) rfl)
theorem wd_se_X4_X4_event : Cond.selects RX4 yX4_event yX4_event ∈ wsL_law := in_r7 _ (List.mem_of_getElem? (i := 17) rfl)
theorem wd_co_X4_event : Cond.code yX4_event cX4_event 5 (some .int) ∈ wsL_law := in_r7 _ (List.mem_of_getElem? (i := 18) rfl)
theorem wd_ml_X4_82 : Cond.methodLink RX4 82 yX4_refusalOfEvent ∈ wsL_law := in_r7 _ (List.mem_of_getElem? (i := 19) rfl)
theorem wd_im_X4_refusalOfEvent : Cond.instanceMethod yX4_refusalOfEvent ∈ wsL_law := in_r7 _ (List.mem_of_getElem? (i := 20) rfl)
theorem wd_se_X4_X4_refusalOfEvent : Cond.selects RX4 yX4_refusalOfEvent yX4_refusalOfEvent ∈ wsL_law := in_r7 _ (List.mem_of_getElem? (i := 21) rfl)
theorem wd_co_X4_refusalOfEvent : Cond.code yX4_refusalOfEvent cX4_refusalOfEvent 4 (some .int) ∈ wsL_law := in_r7 _ (List.mem_of_getElem? (i := 22) rfl)
theorem wd_fk_X4_140 : Cond.fieldLink RX4 140 "SafeParts$World" "toldByHand" "I" ∈ wsL_law := in_r7 _ (List.mem_of_getElem? (i := 23) rfl)
theorem wd_ml_X4_231 : Cond.methodLink RX4 231 yX3_hasWorkedAtOrBehind ∈ wsL_law := in_r8 _ (List.mem_of_getElem? (i := 0) rfl)
theorem wd_im_X3_hasWorkedAtOrBehind : Cond.instanceMethod yX3_hasWorkedAtOrBehind ∈ wsL_law := in_r8 _ (List.mem_of_getElem? (i := 1) rfl)
theorem wd_se_X3_X3_hasWorkedAtOrBehind : Cond.selects RX3 yX3_hasWorkedAtOrBehind yX3_hasWorkedAtOrBehind ∈ wsL_law := in_r8 _ (List.mem_of_getElem? (i := 2) rfl)
theorem wd_co_X3_hasWorkedAtOrBehind : Cond.code yX3_hasWorkedAtOrBehind cX3_hasWorkedAtOrBehind 3 (some .boolean) ∈ wsL_law := in_r8 _ (List.mem_of_getElem? (i := 3) rfl)
theorem wd_ml_X4_234 : Cond.methodLink RX4 234 yX0_promiseMoreThan ∈ wsL_law := in_r8 _ (List.mem_of_getElem? (i := 4) rfl)
theorem wd_im_X0_promiseMoreThan : Cond.instanceMethod yX0_promiseMoreThan ∈ wsL_law := in_r8 _ (List.mem_of_getElem? (i := 5) rfl)
theorem wd_se_X0_X0_promiseMoreThan : Cond.selects RX0 yX0_promiseMoreThan yX0_promiseMoreThan ∈ wsL_law := in_r8 _ (List.mem_of_getElem? (i := 6) rfl)
theorem wd_co_X0_promiseMoreThan : Cond.code yX0_promiseMoreThan cX0_promiseMoreThan 4 (some .boolean) ∈ wsL_law := in_r8 _ (List.mem_of_getElem? (i := 7) rfl)
theorem wd_ml_X4_86 : Cond.methodLink RX4 86 yX3_tellByHand ∈ wsL_law := in_r8 _ (List.mem_of_getElem? (i := 8) rfl)
theorem wd_im_X3_tellByHand : Cond.instanceMethod yX3_tellByHand ∈ wsL_law := in_r8 _ (List.mem_of_getElem? (i := 9) rfl)
theorem wd_se_X3_X3_tellByHand : Cond.selects RX3 yX3_tellByHand yX3_tellByHand ∈ wsL_law := in_r8 _ (List.mem_of_getElem? (i := 10) rfl)
theorem wd_co_X3_tellByHand : Cond.code yX3_tellByHand cX3_tellByHand 4 (some .int) ∈ wsL_law := in_r8 _ (List.mem_of_getElem? (i := 11) rfl)
theorem wd_ml_X3_90 : Cond.methodLink RX3 90 yX2_add ∈ wsL_law := in_r8 _ (List.mem_of_getElem? (i := 12) rfl)
theorem wd_im_X2_add : Cond.instanceMethod yX2_add ∈ wsL_law := in_r8 _ (List.mem_of_getElem? (i := 13) rfl)
theorem wd_se_X2_X2_add : Cond.selects RX2 yX2_add yX2_add ∈ wsL_law := in_r8 _ (List.mem_of_getElem? (i := 14) rfl)
theorem wd_co_X2_add : Cond.code yX2_add cX2_add 5 none ∈ wsL_law := in_r8 _ (List.mem_of_getElem? (i := 15) rfl)
theorem wd_fk_X2_21 : Cond.fieldLink RX2 21 "SafeParts$Waiting" "size" "I" ∈ wsL_law := in_r8 _ (List.mem_of_getElem? (i := 16) rfl)
theorem wd_ml_X2_26 : Cond.methodLink RX2 26 yX2_isBehind ∈ wsL_law := in_r8 _ (List.mem_of_getElem? (i := 17) rfl)
theorem wd_im_X2_isBehind : Cond.instanceMethod yX2_isBehind ∈ wsL_law := in_r8 _ (List.mem_of_getElem? (i := 18) rfl)
theorem wd_se_X2_X2_isBehind : Cond.selects RX2 yX2_isBehind yX2_isBehind ∈ wsL_law := in_r8 _ (List.mem_of_getElem? (i := 19) rfl)
theorem wd_co_X2_isBehind : Cond.code yX2_isBehind cX2_isBehind 4 (some .boolean) ∈ wsL_law := in_r8 _ (List.mem_of_getElem? (i := 20) rfl)
theorem wd_ml_L_27 : Cond.methodLink RL 27 yX5_event ∈ wsL_law := in_r8 _ (List.mem_of_getElem? (i := 21) rfl)
theorem wd_im_X5_event : Cond.instanceMethod yX5_event ∈ wsL_law := in_r8 _ (List.mem_of_getElem? (i := 22) rfl)
theorem wd_se_X5_X5_event : Cond.selects RX5 yX5_event yX5_event ∈ wsL_law := in_r8 _ (List.mem_of_getElem? (i := 23) rfl)
theorem wd_co_X5_event : Cond.code yX5_event cX5_event 4 (some .int) ∈ wsL_law := in_r9 _ (List.mem_of_getElem? (i := 0) rfl)
theorem wd_cl_X5_50 : Cond.constantLong RX5 50 (9999) ∈ wsL_law := in_r9 _ (List.mem_of_getElem? (i := 1) rfl)
theorem wd_ml_X5_52 : Cond.methodLink RX5 52 yX5_isPromised ∈ wsL_law := in_r9 _ (List.mem_of_getElem? (i := 2) rfl)
theorem wd_im_X5_isPromised : Cond.instanceMethod yX5_isPromised ∈ wsL_law := in_r9 _ (List.mem_of_getElem? (i := 3) rfl)
theorem wd_se_X5_X5_isPromised : Cond.selects RX5 yX5_isPromised yX5_isPromised ∈ wsL_law := in_r9 _ (List.mem_of_getElem? (i := 4) rfl)
theorem wd_co_X5_isPromised : Cond.code yX5_isPromised cX5_isPromised 5 (some .boolean) ∈ wsL_law := in_r9 _ (List.mem_of_getElem? (i := 5) rfl)
theorem wd_ml_X5_56 : Cond.methodLink RX5 56 yX5_comes ∈ wsL_law := in_r9 _ (List.mem_of_getElem? (i := 6) rfl)
theorem wd_im_X5_comes : Cond.instanceMethod yX5_comes ∈ wsL_law := in_r9 _ (List.mem_of_getElem? (i := 7) rfl)
theorem wd_se_X5_X5_comes : Cond.selects RX5 yX5_comes yX5_comes ∈ wsL_law := in_r9 _ (List.mem_of_getElem? (i := 8) rfl)
theorem wd_co_X5_comes : Cond.code yX5_comes cX5_comes 7 none ∈ wsL_law := in_r9 _ (List.mem_of_getElem? (i := 9) rfl)
theorem wd_ml_X5_60 : Cond.methodLink RX5 60 yX5_waitFor ∈ wsL_law := in_r9 _ (List.mem_of_getElem? (i := 10) rfl)
theorem wd_im_X5_waitFor : Cond.instanceMethod yX5_waitFor ∈ wsL_law := in_r9 _ (List.mem_of_getElem? (i := 11) rfl)
theorem wd_se_X5_X5_waitFor : Cond.selects RX5 yX5_waitFor yX5_waitFor ∈ wsL_law := in_r9 _ (List.mem_of_getElem? (i := 12) rfl)
theorem wd_co_X5_waitFor : Cond.code yX5_waitFor cX5_waitFor 5 (some .int) ∈ wsL_law := in_r9 _ (List.mem_of_getElem? (i := 13) rfl)
theorem wd_ml_L_28 : Cond.methodLink RL 28 yX4_form ∈ wsL_law := in_r9 _ (List.mem_of_getElem? (i := 14) rfl)
theorem wd_im_X4_form : Cond.instanceMethod yX4_form ∈ wsL_law := in_r9 _ (List.mem_of_getElem? (i := 15) rfl)
theorem wd_se_X4_X4_form : Cond.selects RX4 yX4_form yX4_form ∈ wsL_law := in_r9 _ (List.mem_of_getElem? (i := 16) rfl)
theorem wd_co_X4_form : Cond.code yX4_form cX4_form 3 (some .int) ∈ wsL_law := in_r9 _ (List.mem_of_getElem? (i := 17) rfl)
theorem wd_fk_X4_89 : Cond.fieldLink RX4 89 "SafeParts$World" "formNow" "I" ∈ wsL_law := in_r9 _ (List.mem_of_getElem? (i := 18) rfl)
theorem wd_ml_L_31 : Cond.methodLink RL 31 yX5_form ∈ wsL_law := in_r9 _ (List.mem_of_getElem? (i := 19) rfl)
theorem wd_im_X5_form : Cond.instanceMethod yX5_form ∈ wsL_law := in_r9 _ (List.mem_of_getElem? (i := 20) rfl)
theorem wd_se_X5_X5_form : Cond.selects RX5 yX5_form yX5_form ∈ wsL_law := in_r9 _ (List.mem_of_getElem? (i := 21) rfl)
theorem wd_co_X5_form : Cond.code yX5_form cX5_form 3 (some .int) ∈ wsL_law := in_r9 _ (List.mem_of_getElem? (i := 22) rfl)
theorem wd_cl_X5_63 : Cond.constantLong RX5 63 (2) ∈ wsL_law := in_r9 _ (List.mem_of_getElem? (i := 23) rfl)
theorem wd_ml_L_32 : Cond.methodLink RL 32 yX4_drift ∈ wsL_law := in_r10 _ (List.mem_of_getElem? (i := 0) rfl)
theorem wd_im_X4_drift : Cond.instanceMethod yX4_drift ∈ wsL_law := in_r10 _ (List.mem_of_getElem? (i := 1) rfl)
theorem wd_se_X4_X4_drift : Cond.selects RX4 yX4_drift yX4_drift ∈ wsL_law := in_r10 _ (List.mem_of_getElem? (i := 2) rfl)
theorem wd_co_X4_drift : Cond.code yX4_drift cX4_drift 11 (some .int) ∈ wsL_law := in_r10 _ (List.mem_of_getElem? (i := 3) rfl)
theorem wd_ct_X4_92 : Cond.constant RX4 92 (999999) ∈ wsL_law := in_r10 _ (List.mem_of_getElem? (i := 4) rfl)
theorem wd_fk_X4_100 : Cond.fieldLink RX4 100 "SafeParts$World" "now" "[I" ∈ wsL_law := in_r10 _ (List.mem_of_getElem? (i := 5) rfl)
theorem wd_cl_X4_103 : Cond.constantLong RX4 103 (50) ∈ wsL_law := in_r10 _ (List.mem_of_getElem? (i := 6) rfl)
theorem wd_cl_X4_105 : Cond.constantLong RX4 105 (20) ∈ wsL_law := in_r10 _ (List.mem_of_getElem? (i := 7) rfl)
theorem wd_ml_X4_96 : Cond.methodLink RX4 96 yX4_nextLot ∈ wsL_law := in_r10 _ (List.mem_of_getElem? (i := 8) rfl)
theorem wd_st_X4_nextLot : Cond.static yX4_nextLot ∈ wsL_law := in_r10 _ (List.mem_of_getElem? (i := 9) rfl)
theorem wd_co_X4_nextLot : Cond.code yX4_nextLot cX4_nextLot 2 (some .long) ∈ wsL_law := in_r10 _ (List.mem_of_getElem? (i := 10) rfl)
theorem wd_cl_X4_237 : Cond.constantLong RX4 237 (16807) ∈ wsL_law := in_r10 _ (List.mem_of_getElem? (i := 11) rfl)
theorem wd_cl_X4_239 : Cond.constantLong RX4 239 (2147483647) ∈ wsL_law := in_r10 _ (List.mem_of_getElem? (i := 12) rfl)
theorem wd_ml_L_36 : Cond.methodLink RL 36 yX5_drift ∈ wsL_law := in_r10 _ (List.mem_of_getElem? (i := 13) rfl)
theorem wd_im_X5_drift : Cond.instanceMethod yX5_drift ∈ wsL_law := in_r10 _ (List.mem_of_getElem? (i := 14) rfl)
theorem wd_se_X5_X5_drift : Cond.selects RX5 yX5_drift yX5_drift ∈ wsL_law := in_r10 _ (List.mem_of_getElem? (i := 15) rfl)
theorem wd_co_X5_drift : Cond.code yX5_drift cX5_drift 8 (some .int) ∈ wsL_law := in_r10 _ (List.mem_of_getElem? (i := 16) rfl)
theorem wd_cl_X5_73 : Cond.constantLong RX5 73 (20) ∈ wsL_law := in_r10 _ (List.mem_of_getElem? (i := 17) rfl)
theorem wd_cl_X5_75 : Cond.constantLong RX5 75 (999999) ∈ wsL_law := in_r10 _ (List.mem_of_getElem? (i := 18) rfl)
theorem wd_fk_X5_65 : Cond.fieldLink RX5 65 "SafePartsModel" "lot" "J" ∈ wsL_law := in_r10 _ (List.mem_of_getElem? (i := 19) rfl)
theorem wd_ml_X5_77 : Cond.methodLink RX5 77 yX5_draw ∈ wsL_law := in_r10 _ (List.mem_of_getElem? (i := 20) rfl)
theorem wd_im_X5_draw : Cond.instanceMethod yX5_draw ∈ wsL_law := in_r10 _ (List.mem_of_getElem? (i := 21) rfl)
theorem wd_se_X5_X5_draw : Cond.selects RX5 yX5_draw yX5_draw ∈ wsL_law := in_r10 _ (List.mem_of_getElem? (i := 22) rfl)
theorem wd_co_X5_draw : Cond.code yX5_draw cX5_draw 2 (some .int) ∈ wsL_law := in_r10 _ (List.mem_of_getElem? (i := 23) rfl)
theorem wd_cl_X5_69 : Cond.constantLong RX5 69 (16807) ∈ wsL_law := in_r11 _ (List.mem_of_getElem? (i := 0) rfl)
theorem wd_cl_X5_71 : Cond.constantLong RX5 71 (2147483647) ∈ wsL_law := in_r11 _ (List.mem_of_getElem? (i := 1) rfl)
theorem wd_ml_X5_81 : Cond.methodLink RX5 81 yX5_event ∈ wsL_law := in_r11 _ (List.mem_of_getElem? (i := 2) rfl)
theorem wd_ml_L_37 : Cond.methodLink RL 37 yX4_run ∈ wsL_law := in_r11 _ (List.mem_of_getElem? (i := 3) rfl)
theorem wd_im_X4_run : Cond.instanceMethod yX4_run ∈ wsL_law := in_r11 _ (List.mem_of_getElem? (i := 4) rfl)
theorem wd_se_X4_X4_run : Cond.selects RX4 yX4_run yX4_run ∈ wsL_law := in_r11 _ (List.mem_of_getElem? (i := 5) rfl)
theorem wd_co_X4_run : Cond.code yX4_run cX4_run 5 (some .int) ∈ wsL_law := in_r11 _ (List.mem_of_getElem? (i := 6) rfl)
theorem wd_ml_X4_107 : Cond.methodLink RX4 107 yX4_nothingIsRun ∈ wsL_law := in_r11 _ (List.mem_of_getElem? (i := 7) rfl)
theorem wd_im_X4_nothingIsRun : Cond.instanceMethod yX4_nothingIsRun ∈ wsL_law := in_r11 _ (List.mem_of_getElem? (i := 8) rfl)
theorem wd_se_X4_X4_nothingIsRun : Cond.selects RX4 yX4_nothingIsRun yX4_nothingIsRun ∈ wsL_law := in_r11 _ (List.mem_of_getElem? (i := 9) rfl)
theorem wd_co_X4_nothingIsRun : Cond.code yX4_nothingIsRun cX4_nothingIsRun 1 (some .boolean) ∈ wsL_law := in_r11 _ (List.mem_of_getElem? (i := 10) rfl)
theorem wd_ml_X4_136 : Cond.methodLink RX4 136 yX0_hasRingWithoutPromise ∈ wsL_law := in_r11 _ (List.mem_of_getElem? (i := 11) rfl)
theorem wd_im_X0_hasRingWithoutPromise : Cond.instanceMethod yX0_hasRingWithoutPromise ∈ wsL_law := in_r11 _ (List.mem_of_getElem? (i := 12) rfl)
theorem wd_se_X0_X0_hasRingWithoutPromise : Cond.selects RX0 yX0_hasRingWithoutPromise yX0_hasRingWithoutPromise ∈ wsL_law := in_r11 _ (List.mem_of_getElem? (i := 13) rfl)
theorem wd_co_X0_hasRingWithoutPromise : Cond.code yX0_hasRingWithoutPromise cX0_hasRingWithoutPromise 3 (some .boolean) ∈ wsL_law := in_r11 _ (List.mem_of_getElem? (i := 14) rfl)
theorem wd_ml_X0_49 : Cond.methodLink RX0 49 yX0_reachedWithoutPromise ∈ wsL_law := in_r11 _ (List.mem_of_getElem? (i := 15) rfl)
theorem wd_im_X0_reachedWithoutPromise : Cond.instanceMethod yX0_reachedWithoutPromise ∈ wsL_law := in_r11 _ (List.mem_of_getElem? (i := 16) rfl)
theorem wd_se_X0_X0_reachedWithoutPromise : Cond.selects RX0 yX0_reachedWithoutPromise yX0_reachedWithoutPromise ∈ wsL_law := in_r11 _ (List.mem_of_getElem? (i := 17) rfl)
theorem wd_co_X0_reachedWithoutPromise : Cond.code yX0_reachedWithoutPromise cX0_reachedWithoutPromise 7 (some .int) ∈ wsL_law := in_r11 _ (List.mem_of_getElem? (i := 18) rfl)
theorem wd_ml_X4_111 : Cond.methodLink RX4 111 yX3_eventsThatWait ∈ wsL_law := in_r11 _ (List.mem_of_getElem? (i := 19) rfl)
theorem wd_im_X3_eventsThatWait : Cond.instanceMethod yX3_eventsThatWait ∈ wsL_law := in_r11 _ (List.mem_of_getElem? (i := 20) rfl)
theorem wd_se_X3_X3_eventsThatWait : Cond.selects RX3 yX3_eventsThatWait yX3_eventsThatWait ∈ wsL_law := in_r11 _ (List.mem_of_getElem? (i := 21) rfl)
theorem wd_co_X3_eventsThatWait : Cond.code yX3_eventsThatWait cX3_eventsThatWait 3 (some .int) ∈ wsL_law := in_r11 _ (List.mem_of_getElem? (i := 22) rfl)
theorem wd_ml_X4_114 : Cond.methodLink RX4 114 yX4_isStillAfterRound ∈ wsL_law := in_r11 _ (List.mem_of_getElem? (i := 23) rfl)
theorem wd_im_X4_isStillAfterRound : Cond.instanceMethod yX4_isStillAfterRound ∈ wsL_law := in_r12 _ (List.mem_of_getElem? (i := 0) rfl)
theorem wd_se_X4_X4_isStillAfterRound : Cond.selects RX4 yX4_isStillAfterRound yX4_isStillAfterRound ∈ wsL_law := in_r12 _ (List.mem_of_getElem? (i := 1) rfl)
theorem wd_co_X4_isStillAfterRound : Cond.code yX4_isStillAfterRound cX4_isStillAfterRound 4 (some .boolean) ∈ wsL_law := in_r12 _ (List.mem_of_getElem? (i := 2) rfl)
theorem wd_fk_X4_123 : Cond.fieldLink RX4 123 "SafeParts$World" "emptyLetters" "I" ∈ wsL_law := in_r12 _ (List.mem_of_getElem? (i := 3) rfl)
theorem wd_fk_X4_126 : Cond.fieldLink RX4 126 "SafeParts$World" "rounds" "I" ∈ wsL_law := in_r12 _ (List.mem_of_getElem? (i := 4) rfl)
theorem wd_ml_X4_169 : Cond.methodLink RX4 169 yX3_mayWork ∈ wsL_law := in_r12 _ (List.mem_of_getElem? (i := 5) rfl)
theorem wd_im_X3_mayWork : Cond.instanceMethod yX3_mayWork ∈ wsL_law := in_r12 _ (List.mem_of_getElem? (i := 6) rfl)
theorem wd_se_X3_X3_mayWork : Cond.selects RX3 yX3_mayWork yX3_mayWork ∈ wsL_law := in_r12 _ (List.mem_of_getElem? (i := 7) rfl)
theorem wd_co_X3_mayWork : Cond.code yX3_mayWork cX3_mayWork 2 (some .boolean) ∈ wsL_law := in_r12 _ (List.mem_of_getElem? (i := 8) rfl)
theorem wd_ml_X3_68 : Cond.methodLink RX3 68 yX2_firstTime ∈ wsL_law := in_r12 _ (List.mem_of_getElem? (i := 9) rfl)
theorem wd_im_X2_firstTime : Cond.instanceMethod yX2_firstTime ∈ wsL_law := in_r12 _ (List.mem_of_getElem? (i := 10) rfl)
theorem wd_se_X2_X2_firstTime : Cond.selects RX2 yX2_firstTime yX2_firstTime ∈ wsL_law := in_r12 _ (List.mem_of_getElem? (i := 11) rfl)
theorem wd_co_X2_firstTime : Cond.code yX2_firstTime cX2_firstTime 1 (some .int) ∈ wsL_law := in_r12 _ (List.mem_of_getElem? (i := 12) rfl)
theorem wd_ct_X2_25 : Cond.constant RX2 25 (99999999) ∈ wsL_law := in_r12 _ (List.mem_of_getElem? (i := 13) rfl)
theorem wd_ml_X3_83 : Cond.methodLink RX3 83 yX3_safeOf ∈ wsL_law := in_r12 _ (List.mem_of_getElem? (i := 14) rfl)
theorem wd_im_X3_safeOf : Cond.instanceMethod yX3_safeOf ∈ wsL_law := in_r12 _ (List.mem_of_getElem? (i := 15) rfl)
theorem wd_se_X3_X3_safeOf : Cond.selects RX3 yX3_safeOf yX3_safeOf ∈ wsL_law := in_r12 _ (List.mem_of_getElem? (i := 16) rfl)
theorem wd_co_X3_safeOf : Cond.code yX3_safeOf cX3_safeOf 3 (some .int) ∈ wsL_law := in_r12 _ (List.mem_of_getElem? (i := 17) rfl)
theorem wd_ct_X3_79 : Cond.constant RX3 79 (99999999) ∈ wsL_law := in_r12 _ (List.mem_of_getElem? (i := 18) rfl)
theorem wd_fk_X3_80 : Cond.fieldLink RX3 80 "SafeParts$Channels" "clock" "[I" ∈ wsL_law := in_r12 _ (List.mem_of_getElem? (i := 19) rfl)
theorem wd_ml_X3_75 : Cond.methodLink RX3 75 yX0_ofLeastClockTo ∈ wsL_law := in_r12 _ (List.mem_of_getElem? (i := 20) rfl)
theorem wd_im_X0_ofLeastClockTo : Cond.instanceMethod yX0_ofLeastClockTo ∈ wsL_law := in_r12 _ (List.mem_of_getElem? (i := 21) rfl)
theorem wd_se_X0_X0_ofLeastClockTo : Cond.selects RX0 yX0_ofLeastClockTo yX0_ofLeastClockTo ∈ wsL_law := in_r12 _ (List.mem_of_getElem? (i := 22) rfl)
theorem wd_co_X0_ofLeastClockTo : Cond.code yX0_ofLeastClockTo cX0_ofLeastClockTo 4 (some .int) ∈ wsL_law := in_r12 _ (List.mem_of_getElem? (i := 23) rfl)
theorem wd_ml_X4_241 : Cond.methodLink RX4 241 yX4_workAndWriteDown ∈ wsL_law := in_r13 _ (List.mem_of_getElem? (i := 0) rfl)
theorem wd_im_X4_workAndWriteDown : Cond.instanceMethod yX4_workAndWriteDown ∈ wsL_law := in_r13 _ (List.mem_of_getElem? (i := 1) rfl)
theorem wd_se_X4_X4_workAndWriteDown : Cond.selects RX4 yX4_workAndWriteDown yX4_workAndWriteDown ∈ wsL_law := in_r13 _ (List.mem_of_getElem? (i := 2) rfl)
theorem wd_co_X4_workAndWriteDown : Cond.code yX4_workAndWriteDown cX4_workAndWriteDown 3 none ∈ wsL_law := in_r13 _ (List.mem_of_getElem? (i := 3) rfl)
theorem wd_fk_X4_156 : Cond.fieldLink RX4 156 "SafeParts$World" "waiting" "[LSafeParts$Waiting;" ∈ wsL_law := in_r13 _ (List.mem_of_getElem? (i := 4) rfl)
theorem wd_ml_X4_163 : Cond.methodLink RX4 163 yX2_firstTime ∈ wsL_law := in_r13 _ (List.mem_of_getElem? (i := 5) rfl)
theorem wd_ml_X4_166 : Cond.methodLink RX4 166 yX2_firstValue ∈ wsL_law := in_r13 _ (List.mem_of_getElem? (i := 6) rfl)
theorem wd_im_X2_firstValue : Cond.instanceMethod yX2_firstValue ∈ wsL_law := in_r13 _ (List.mem_of_getElem? (i := 7) rfl)
theorem wd_se_X2_X2_firstValue : Cond.selects RX2 yX2_firstValue yX2_firstValue ∈ wsL_law := in_r13 _ (List.mem_of_getElem? (i := 8) rfl)
theorem wd_co_X2_firstValue : Cond.code yX2_firstValue cX2_firstValue 1 (some .int) ∈ wsL_law := in_r13 _ (List.mem_of_getElem? (i := 9) rfl)
theorem wd_ml_X4_250 : Cond.methodLink RX4 250 yX1_add ∈ wsL_law := in_r13 _ (List.mem_of_getElem? (i := 10) rfl)
theorem wd_im_X1_add : Cond.instanceMethod yX1_add ∈ wsL_law := in_r13 _ (List.mem_of_getElem? (i := 11) rfl)
theorem wd_se_X1_X1_add : Cond.selects RX1 yX1_add yX1_add ∈ wsL_law := in_r13 _ (List.mem_of_getElem? (i := 12) rfl)
theorem wd_co_X1_add : Cond.code yX1_add cX1_add 5 none ∈ wsL_law := in_r13 _ (List.mem_of_getElem? (i := 13) rfl)
theorem wd_ml_X4_225 : Cond.methodLink RX4 225 yX3_workOnFirst ∈ wsL_law := in_r13 _ (List.mem_of_getElem? (i := 14) rfl)
theorem wd_im_X3_workOnFirst : Cond.instanceMethod yX3_workOnFirst ∈ wsL_law := in_r13 _ (List.mem_of_getElem? (i := 15) rfl)
theorem wd_se_X3_X3_workOnFirst : Cond.selects RX3 yX3_workOnFirst yX3_workOnFirst ∈ wsL_law := in_r13 _ (List.mem_of_getElem? (i := 16) rfl)
theorem wd_co_X3_workOnFirst : Cond.code yX3_workOnFirst cX3_workOnFirst 5 none ∈ wsL_law := in_r13 _ (List.mem_of_getElem? (i := 17) rfl)
theorem wd_ct_X3_100 : Cond.constant RX3 100 (1000003) ∈ wsL_law := in_r13 _ (List.mem_of_getElem? (i := 18) rfl)
theorem wd_ml_X3_94 : Cond.methodLink RX3 94 yX2_firstValue ∈ wsL_law := in_r13 _ (List.mem_of_getElem? (i := 19) rfl)
theorem wd_ml_X3_97 : Cond.methodLink RX3 97 yX2_removeFirst ∈ wsL_law := in_r13 _ (List.mem_of_getElem? (i := 20) rfl)
theorem wd_im_X2_removeFirst : Cond.instanceMethod yX2_removeFirst ∈ wsL_law := in_r13 _ (List.mem_of_getElem? (i := 21) rfl)
theorem wd_se_X2_X2_removeFirst : Cond.selects RX2 yX2_removeFirst yX2_removeFirst ∈ wsL_law := in_r13 _ (List.mem_of_getElem? (i := 22) rfl)
theorem wd_co_X2_removeFirst : Cond.code yX2_removeFirst cX2_removeFirst 1 none ∈ wsL_law := in_r13 _ (List.mem_of_getElem? (i := 23) rfl)
theorem wd_ml_X2_30 : Cond.methodLink RX2 30 arraycopyName ∈ wsL_law := in_r14 _ (List.mem_of_getElem? (i := 0) rfl)
theorem wd_na_arraycopyName : Cond.native arraycopyName ∈ wsL_law := in_r14 _ (List.mem_of_getElem? (i := 1) rfl)
theorem wd_st_arraycopyName : Cond.static arraycopyName ∈ wsL_law := in_r14 _ (List.mem_of_getElem? (i := 2) rfl)
theorem wd_ini_java_lang_System : Cond.initialized "java/lang/System" ∈ wsL_law := in_r14 _ (List.mem_of_getElem? (i := 3) rfl)
theorem wd_ml_X3_101 : Cond.methodLink RX3 101 yX3_sendLetter ∈ wsL_law := in_r14 _ (List.mem_of_getElem? (i := 4) rfl)
theorem wd_im_X3_sendLetter : Cond.instanceMethod yX3_sendLetter ∈ wsL_law := in_r14 _ (List.mem_of_getElem? (i := 5) rfl)
theorem wd_se_X3_X3_sendLetter : Cond.selects RX3 yX3_sendLetter yX3_sendLetter ∈ wsL_law := in_r14 _ (List.mem_of_getElem? (i := 6) rfl)
theorem wd_co_X3_sendLetter : Cond.code yX3_sendLetter cX3_sendLetter 7 none ∈ wsL_law := in_r14 _ (List.mem_of_getElem? (i := 7) rfl)
theorem wd_fk_X3_111 : Cond.fieldLink RX3 111 "SafeParts$Channels" "delay" "[I" ∈ wsL_law := in_r14 _ (List.mem_of_getElem? (i := 8) rfl)
theorem wd_fk_X3_114 : Cond.fieldLink RX3 114 "SafeParts$Channels" "to" "[I" ∈ wsL_law := in_r14 _ (List.mem_of_getElem? (i := 9) rfl)
theorem wd_fk_X3_117 : Cond.fieldLink RX3 117 "SafeParts$Channels" "letters" "[I" ∈ wsL_law := in_r14 _ (List.mem_of_getElem? (i := 10) rfl)
theorem wd_ml_X3_120 : Cond.methodLink RX3 120 Lib.Math.max.name ∈ wsL_law := in_r14 _ (List.mem_of_getElem? (i := 11) rfl)
theorem wd_st_Lib_Math_max_name : Cond.static Lib.Math.max.name ∈ wsL_law := in_r14 _ (List.mem_of_getElem? (i := 12) rfl)
theorem wd_ini_java_lang_Math : Cond.initialized "java/lang/Math" ∈ wsL_law := in_r14 _ (List.mem_of_getElem? (i := 13) rfl)
theorem wd_co_Lib_Math_max_name : Cond.code Lib.Math.max.name Lib.Math.max.code 2 (some .int) ∈ wsL_law := in_r14 _ (List.mem_of_getElem? (i := 14) rfl)
theorem wd_ml_X3_104 : Cond.methodLink RX3 104 yX0_countFrom ∈ wsL_law := in_r14 _ (List.mem_of_getElem? (i := 15) rfl)
theorem wd_im_X0_countFrom : Cond.instanceMethod yX0_countFrom ∈ wsL_law := in_r14 _ (List.mem_of_getElem? (i := 16) rfl)
theorem wd_se_X0_X0_countFrom : Cond.selects RX0 yX0_countFrom yX0_countFrom ∈ wsL_law := in_r14 _ (List.mem_of_getElem? (i := 17) rfl)
theorem wd_co_X0_countFrom : Cond.code yX0_countFrom cX0_countFrom 4 (some .int) ∈ wsL_law := in_r14 _ (List.mem_of_getElem? (i := 18) rfl)
theorem wd_ml_X3_107 : Cond.methodLink RX3 107 yX0_atPlaceFrom ∈ wsL_law := in_r14 _ (List.mem_of_getElem? (i := 19) rfl)
theorem wd_im_X0_atPlaceFrom : Cond.instanceMethod yX0_atPlaceFrom ∈ wsL_law := in_r14 _ (List.mem_of_getElem? (i := 20) rfl)
theorem wd_se_X0_X0_atPlaceFrom : Cond.selects RX0 yX0_atPlaceFrom yX0_atPlaceFrom ∈ wsL_law := in_r14 _ (List.mem_of_getElem? (i := 21) rfl)
theorem wd_co_X0_atPlaceFrom : Cond.code yX0_atPlaceFrom cX0_atPlaceFrom 5 (some .int) ∈ wsL_law := in_r14 _ (List.mem_of_getElem? (i := 22) rfl)
theorem wd_ml_X4_244 : Cond.methodLink RX4 244 yX3_sendEmptyLetters ∈ wsL_law := in_r14 _ (List.mem_of_getElem? (i := 23) rfl)
theorem wd_im_X3_sendEmptyLetters : Cond.instanceMethod yX3_sendEmptyLetters ∈ wsL_law := in_r15 _ (List.mem_of_getElem? (i := 0) rfl)
theorem wd_se_X3_X3_sendEmptyLetters : Cond.selects RX3 yX3_sendEmptyLetters yX3_sendEmptyLetters ∈ wsL_law := in_r15 _ (List.mem_of_getElem? (i := 1) rfl)
theorem wd_co_X3_sendEmptyLetters : Cond.code yX3_sendEmptyLetters cX3_sendEmptyLetters 5 none ∈ wsL_law := in_r15 _ (List.mem_of_getElem? (i := 2) rfl)
theorem wd_ml_X3_125 : Cond.methodLink RX3 125 Lib.Math.min.name ∈ wsL_law := in_r15 _ (List.mem_of_getElem? (i := 3) rfl)
theorem wd_st_Lib_Math_min_name : Cond.static Lib.Math.min.name ∈ wsL_law := in_r15 _ (List.mem_of_getElem? (i := 4) rfl)
theorem wd_co_Lib_Math_min_name : Cond.code Lib.Math.min.name Lib.Math.min.code 2 (some .int) ∈ wsL_law := in_r15 _ (List.mem_of_getElem? (i := 5) rfl)
theorem wd_fk_X3_128 : Cond.fieldLink RX3 128 "SafeParts$Channels" "promise" "[I" ∈ wsL_law := in_r15 _ (List.mem_of_getElem? (i := 6) rfl)
theorem wd_fk_X3_131 : Cond.fieldLink RX3 131 "SafeParts$Channels" "from" "[I" ∈ wsL_law := in_r15 _ (List.mem_of_getElem? (i := 7) rfl)
theorem wd_fk_X3_137 : Cond.fieldLink RX3 137 "SafeParts$Channels" "empties" "[I" ∈ wsL_law := in_r15 _ (List.mem_of_getElem? (i := 8) rfl)
theorem wd_ml_X3_134 : Cond.methodLink RX3 134 yX3_emptyMayGo ∈ wsL_law := in_r15 _ (List.mem_of_getElem? (i := 9) rfl)
theorem wd_im_X3_emptyMayGo : Cond.instanceMethod yX3_emptyMayGo ∈ wsL_law := in_r15 _ (List.mem_of_getElem? (i := 10) rfl)
theorem wd_se_X3_X3_emptyMayGo : Cond.selects RX3 yX3_emptyMayGo yX3_emptyMayGo ∈ wsL_law := in_r15 _ (List.mem_of_getElem? (i := 11) rfl)
theorem wd_co_X3_emptyMayGo : Cond.code yX3_emptyMayGo cX3_emptyMayGo 2 (some .boolean) ∈ wsL_law := in_r15 _ (List.mem_of_getElem? (i := 12) rfl)
theorem wd_ml_X3_140 : Cond.methodLink RX3 140 yX3_channelWaitedFor ∈ wsL_law := in_r15 _ (List.mem_of_getElem? (i := 13) rfl)
theorem wd_im_X3_channelWaitedFor : Cond.instanceMethod yX3_channelWaitedFor ∈ wsL_law := in_r15 _ (List.mem_of_getElem? (i := 14) rfl)
theorem wd_se_X3_X3_channelWaitedFor : Cond.selects RX3 yX3_channelWaitedFor yX3_channelWaitedFor ∈ wsL_law := in_r15 _ (List.mem_of_getElem? (i := 15) rfl)
theorem wd_co_X3_channelWaitedFor : Cond.code yX3_channelWaitedFor cX3_channelWaitedFor 3 (some .int) ∈ wsL_law := in_r15 _ (List.mem_of_getElem? (i := 16) rfl)
theorem wd_ml_L_40 : Cond.methodLink RL 40 yX5_run ∈ wsL_law := in_r15 _ (List.mem_of_getElem? (i := 17) rfl)
theorem wd_im_X5_run : Cond.instanceMethod yX5_run ∈ wsL_law := in_r15 _ (List.mem_of_getElem? (i := 18) rfl)
theorem wd_se_X5_X5_run : Cond.selects RX5 yX5_run yX5_run ∈ wsL_law := in_r15 _ (List.mem_of_getElem? (i := 19) rfl)
theorem wd_co_X5_run : Cond.code yX5_run cX5_run 5 (some .int) ∈ wsL_law := in_r15 _ (List.mem_of_getElem? (i := 20) rfl)
theorem wd_cl_X5_129 : Cond.constantLong RX5 129 (40) ∈ wsL_law := in_r15 _ (List.mem_of_getElem? (i := 21) rfl)
theorem wd_ml_X5_131 : Cond.methodLink RX5 131 yX5_canRun ∈ wsL_law := in_r15 _ (List.mem_of_getElem? (i := 22) rfl)
theorem wd_im_X5_canRun : Cond.instanceMethod yX5_canRun ∈ wsL_law := in_r15 _ (List.mem_of_getElem? (i := 23) rfl)
theorem wd_se_X5_X5_canRun : Cond.selects RX5 yX5_canRun yX5_canRun ∈ wsL_law := in_r16 _ (List.mem_of_getElem? (i := 0) rfl)
theorem wd_co_X5_canRun : Cond.code yX5_canRun cX5_canRun 1 (some .boolean) ∈ wsL_law := in_r16 _ (List.mem_of_getElem? (i := 1) rfl)
theorem wd_ml_X5_125 : Cond.methodLink RX5 125 yX5_isRing ∈ wsL_law := in_r16 _ (List.mem_of_getElem? (i := 2) rfl)
theorem wd_im_X5_isRing : Cond.instanceMethod yX5_isRing ∈ wsL_law := in_r16 _ (List.mem_of_getElem? (i := 3) rfl)
theorem wd_se_X5_X5_isRing : Cond.selects RX5 yX5_isRing yX5_isRing ∈ wsL_law := in_r16 _ (List.mem_of_getElem? (i := 4) rfl)
theorem wd_co_X5_isRing : Cond.code yX5_isRing cX5_isRing 3 (some .boolean) ∈ wsL_law := in_r16 _ (List.mem_of_getElem? (i := 5) rfl)
theorem wd_ml_X5_122 : Cond.methodLink RX5 122 yX5_ringOf ∈ wsL_law := in_r16 _ (List.mem_of_getElem? (i := 6) rfl)
theorem wd_im_X5_ringOf : Cond.instanceMethod yX5_ringOf ∈ wsL_law := in_r16 _ (List.mem_of_getElem? (i := 7) rfl)
theorem wd_se_X5_X5_ringOf : Cond.selects RX5 yX5_ringOf yX5_ringOf ∈ wsL_law := in_r16 _ (List.mem_of_getElem? (i := 8) rfl)
theorem wd_co_X5_ringOf : Cond.code yX5_ringOf cX5_ringOf 6 (some .int) ∈ wsL_law := in_r16 _ (List.mem_of_getElem? (i := 9) rfl)
theorem wd_ct_X5_91 : Cond.constant RX5 91 (99999999) ∈ wsL_law := in_r16 _ (List.mem_of_getElem? (i := 10) rfl)
theorem wd_ml_X5_134 : Cond.methodLink RX5 134 yX5_rounds ∈ wsL_law := in_r16 _ (List.mem_of_getElem? (i := 11) rfl)
theorem wd_im_X5_rounds : Cond.instanceMethod yX5_rounds ∈ wsL_law := in_r16 _ (List.mem_of_getElem? (i := 12) rfl)
theorem wd_se_X5_X5_rounds : Cond.selects RX5 yX5_rounds yX5_rounds ∈ wsL_law := in_r16 _ (List.mem_of_getElem? (i := 13) rfl)
theorem wd_co_X5_rounds : Cond.code yX5_rounds cX5_rounds 3 (some .boolean) ∈ wsL_law := in_r16 _ (List.mem_of_getElem? (i := 14) rfl)
theorem wd_ml_X5_108 : Cond.methodLink RX5 108 yX5_may ∈ wsL_law := in_r16 _ (List.mem_of_getElem? (i := 15) rfl)
theorem wd_im_X5_may : Cond.instanceMethod yX5_may ∈ wsL_law := in_r16 _ (List.mem_of_getElem? (i := 16) rfl)
theorem wd_se_X5_X5_may : Cond.selects RX5 yX5_may yX5_may ∈ wsL_law := in_r16 _ (List.mem_of_getElem? (i := 17) rfl)
theorem wd_co_X5_may : Cond.code yX5_may cX5_may 2 (some .boolean) ∈ wsL_law := in_r16 _ (List.mem_of_getElem? (i := 18) rfl)
theorem wd_ml_X5_88 : Cond.methodLink RX5 88 yX5_firstOf ∈ wsL_law := in_r16 _ (List.mem_of_getElem? (i := 19) rfl)
theorem wd_im_X5_firstOf : Cond.instanceMethod yX5_firstOf ∈ wsL_law := in_r16 _ (List.mem_of_getElem? (i := 20) rfl)
theorem wd_se_X5_X5_firstOf : Cond.selects RX5 yX5_firstOf yX5_firstOf ∈ wsL_law := in_r16 _ (List.mem_of_getElem? (i := 21) rfl)
theorem wd_co_X5_firstOf : Cond.code yX5_firstOf cX5_firstOf 6 (some .int) ∈ wsL_law := in_r16 _ (List.mem_of_getElem? (i := 22) rfl)
theorem wd_ml_X5_85 : Cond.methodLink RX5 85 yX5_isAhead ∈ wsL_law := in_r16 _ (List.mem_of_getElem? (i := 23) rfl)
theorem wd_im_X5_isAhead : Cond.instanceMethod yX5_isAhead ∈ wsL_law := in_r17 _ (List.mem_of_getElem? (i := 0) rfl)
theorem wd_se_X5_X5_isAhead : Cond.selects RX5 yX5_isAhead yX5_isAhead ∈ wsL_law := in_r17 _ (List.mem_of_getElem? (i := 1) rfl)
theorem wd_co_X5_isAhead : Cond.code yX5_isAhead cX5_isAhead 3 (some .boolean) ∈ wsL_law := in_r17 _ (List.mem_of_getElem? (i := 2) rfl)
theorem wd_ml_X5_95 : Cond.methodLink RX5 95 yX5_firstTime ∈ wsL_law := in_r17 _ (List.mem_of_getElem? (i := 3) rfl)
theorem wd_im_X5_firstTime : Cond.instanceMethod yX5_firstTime ∈ wsL_law := in_r17 _ (List.mem_of_getElem? (i := 4) rfl)
theorem wd_se_X5_X5_firstTime : Cond.selects RX5 yX5_firstTime yX5_firstTime ∈ wsL_law := in_r17 _ (List.mem_of_getElem? (i := 5) rfl)
theorem wd_co_X5_firstTime : Cond.code yX5_firstTime cX5_firstTime 4 (some .int) ∈ wsL_law := in_r17 _ (List.mem_of_getElem? (i := 6) rfl)
theorem wd_ml_X5_98 : Cond.methodLink RX5 98 yX5_safe ∈ wsL_law := in_r17 _ (List.mem_of_getElem? (i := 7) rfl)
theorem wd_im_X5_safe : Cond.instanceMethod yX5_safe ∈ wsL_law := in_r17 _ (List.mem_of_getElem? (i := 8) rfl)
theorem wd_se_X5_X5_safe : Cond.selects RX5 yX5_safe yX5_safe ∈ wsL_law := in_r17 _ (List.mem_of_getElem? (i := 9) rfl)
theorem wd_co_X5_safe : Cond.code yX5_safe cX5_safe 3 (some .int) ∈ wsL_law := in_r17 _ (List.mem_of_getElem? (i := 10) rfl)
theorem wd_ml_X5_92 : Cond.methodLink RX5 92 yX5_leastTo ∈ wsL_law := in_r17 _ (List.mem_of_getElem? (i := 11) rfl)
theorem wd_im_X5_leastTo : Cond.instanceMethod yX5_leastTo ∈ wsL_law := in_r17 _ (List.mem_of_getElem? (i := 12) rfl)
theorem wd_se_X5_X5_leastTo : Cond.selects RX5 yX5_leastTo yX5_leastTo ∈ wsL_law := in_r17 _ (List.mem_of_getElem? (i := 13) rfl)
theorem wd_co_X5_leastTo : Cond.code yX5_leastTo cX5_leastTo 4 (some .int) ∈ wsL_law := in_r17 _ (List.mem_of_getElem? (i := 14) rfl)
theorem wd_ml_X5_111 : Cond.methodLink RX5 111 yX5_works ∈ wsL_law := in_r17 _ (List.mem_of_getElem? (i := 15) rfl)
theorem wd_im_X5_works : Cond.instanceMethod yX5_works ∈ wsL_law := in_r17 _ (List.mem_of_getElem? (i := 16) rfl)
theorem wd_se_X5_X5_works : Cond.selects RX5 yX5_works yX5_works ∈ wsL_law := in_r17 _ (List.mem_of_getElem? (i := 17) rfl)
theorem wd_co_X5_works : Cond.code yX5_works cX5_works 10 none ∈ wsL_law := in_r17 _ (List.mem_of_getElem? (i := 18) rfl)
theorem wd_ct_X5_101 : Cond.constant RX5 101 (1000003) ∈ wsL_law := in_r17 _ (List.mem_of_getElem? (i := 19) rfl)
theorem wd_ml_X5_102 : Cond.methodLink RX5 102 yX5_outOf ∈ wsL_law := in_r17 _ (List.mem_of_getElem? (i := 20) rfl)
theorem wd_im_X5_outOf : Cond.instanceMethod yX5_outOf ∈ wsL_law := in_r17 _ (List.mem_of_getElem? (i := 21) rfl)
theorem wd_se_X5_X5_outOf : Cond.selects RX5 yX5_outOf yX5_outOf ∈ wsL_law := in_r17 _ (List.mem_of_getElem? (i := 22) rfl)
theorem wd_co_X5_outOf : Cond.code yX5_outOf cX5_outOf 5 (some .int) ∈ wsL_law := in_r17 _ (List.mem_of_getElem? (i := 23) rfl)
theorem wd_ml_X5_105 : Cond.methodLink RX5 105 yX5_outAt ∈ wsL_law := in_r18 _ (List.mem_of_getElem? (i := 0) rfl)
theorem wd_im_X5_outAt : Cond.instanceMethod yX5_outAt ∈ wsL_law := in_r18 _ (List.mem_of_getElem? (i := 1) rfl)
theorem wd_se_X5_X5_outAt : Cond.selects RX5 yX5_outAt yX5_outAt ∈ wsL_law := in_r18 _ (List.mem_of_getElem? (i := 2) rfl)
theorem wd_co_X5_outAt : Cond.code yX5_outAt cX5_outAt 7 (some .int) ∈ wsL_law := in_r18 _ (List.mem_of_getElem? (i := 3) rfl)
theorem wd_ml_X5_115 : Cond.methodLink RX5 115 yX5_empties ∈ wsL_law := in_r18 _ (List.mem_of_getElem? (i := 4) rfl)
theorem wd_im_X5_empties : Cond.instanceMethod yX5_empties ∈ wsL_law := in_r18 _ (List.mem_of_getElem? (i := 5) rfl)
theorem wd_se_X5_X5_empties : Cond.selects RX5 yX5_empties yX5_empties ∈ wsL_law := in_r18 _ (List.mem_of_getElem? (i := 6) rfl)
theorem wd_co_X5_empties : Cond.code yX5_empties cX5_empties 11 (some .int) ∈ wsL_law := in_r18 _ (List.mem_of_getElem? (i := 7) rfl)
theorem wd_ml_L_41 : Cond.methodLink RL 41 yX4_letGo ∈ wsL_law := in_r18 _ (List.mem_of_getElem? (i := 8) rfl)
theorem wd_im_X4_letGo : Cond.instanceMethod yX4_letGo ∈ wsL_law := in_r18 _ (List.mem_of_getElem? (i := 9) rfl)
theorem wd_se_X4_X4_letGo : Cond.selects RX4 yX4_letGo yX4_letGo ∈ wsL_law := in_r18 _ (List.mem_of_getElem? (i := 10) rfl)
theorem wd_co_X4_letGo : Cond.code yX4_letGo cX4_letGo 1 (some .int) ∈ wsL_law := in_r18 _ (List.mem_of_getElem? (i := 11) rfl)
theorem wd_ml_X4_117 : Cond.methodLink RX4 117 yX3_partsThatMay ∈ wsL_law := in_r18 _ (List.mem_of_getElem? (i := 12) rfl)
theorem wd_im_X3_partsThatMay : Cond.instanceMethod yX3_partsThatMay ∈ wsL_law := in_r18 _ (List.mem_of_getElem? (i := 13) rfl)
theorem wd_se_X3_X3_partsThatMay : Cond.selects RX3 yX3_partsThatMay yX3_partsThatMay ∈ wsL_law := in_r18 _ (List.mem_of_getElem? (i := 14) rfl)
theorem wd_co_X3_partsThatMay : Cond.code yX3_partsThatMay cX3_partsThatMay 3 (some .int) ∈ wsL_law := in_r18 _ (List.mem_of_getElem? (i := 15) rfl)
theorem wd_ml_X3_86 : Cond.methodLink RX3 86 yX3_mayWork ∈ wsL_law := in_r18 _ (List.mem_of_getElem? (i := 16) rfl)
theorem wd_ml_X4_120 : Cond.methodLink RX4 120 yX4_letEarliestGo ∈ wsL_law := in_r18 _ (List.mem_of_getElem? (i := 17) rfl)
theorem wd_im_X4_letEarliestGo : Cond.instanceMethod yX4_letEarliestGo ∈ wsL_law := in_r18 _ (List.mem_of_getElem? (i := 18) rfl)
theorem wd_se_X4_X4_letEarliestGo : Cond.selects RX4 yX4_letEarliestGo yX4_letEarliestGo ∈ wsL_law := in_r18 _ (List.mem_of_getElem? (i := 19) rfl)
theorem wd_co_X4_letEarliestGo : Cond.code yX4_letEarliestGo cX4_letEarliestGo 4 (some .int) ∈ wsL_law := in_r18 _ (List.mem_of_getElem? (i := 20) rfl)
theorem wd_fk_X4_129 : Cond.fieldLink RX4 129 "SafeParts$World" "timesLetGo" "I" ∈ wsL_law := in_r18 _ (List.mem_of_getElem? (i := 21) rfl)
theorem wd_ml_X4_132 : Cond.methodLink RX4 132 yX3_leastTime ∈ wsL_law := in_r18 _ (List.mem_of_getElem? (i := 22) rfl)
theorem wd_im_X3_leastTime : Cond.instanceMethod yX3_leastTime ∈ wsL_law := in_r18 _ (List.mem_of_getElem? (i := 23) rfl)
theorem wd_se_X3_X3_leastTime : Cond.selects RX3 yX3_leastTime yX3_leastTime ∈ wsL_law := in_r19 _ (List.mem_of_getElem? (i := 0) rfl)
theorem wd_co_X3_leastTime : Cond.code yX3_leastTime cX3_leastTime 1 (some .int) ∈ wsL_law := in_r19 _ (List.mem_of_getElem? (i := 1) rfl)
theorem wd_ml_X3_72 : Cond.methodLink RX3 72 yX3_partOfLeastTime ∈ wsL_law := in_r19 _ (List.mem_of_getElem? (i := 2) rfl)
theorem wd_im_X3_partOfLeastTime : Cond.instanceMethod yX3_partOfLeastTime ∈ wsL_law := in_r19 _ (List.mem_of_getElem? (i := 3) rfl)
theorem wd_se_X3_X3_partOfLeastTime : Cond.selects RX3 yX3_partOfLeastTime yX3_partOfLeastTime ∈ wsL_law := in_r19 _ (List.mem_of_getElem? (i := 4) rfl)
theorem wd_co_X3_partOfLeastTime : Cond.code yX3_partOfLeastTime cX3_partOfLeastTime 3 (some .int) ∈ wsL_law := in_r19 _ (List.mem_of_getElem? (i := 5) rfl)
theorem wd_ml_X4_247 : Cond.methodLink RX4 247 yX0_raiseClocks ∈ wsL_law := in_r19 _ (List.mem_of_getElem? (i := 6) rfl)
theorem wd_im_X0_raiseClocks : Cond.instanceMethod yX0_raiseClocks ∈ wsL_law := in_r19 _ (List.mem_of_getElem? (i := 7) rfl)
theorem wd_se_X0_X0_raiseClocks : Cond.selects RX0 yX0_raiseClocks yX0_raiseClocks ∈ wsL_law := in_r19 _ (List.mem_of_getElem? (i := 8) rfl)
theorem wd_co_X0_raiseClocks : Cond.code yX0_raiseClocks cX0_raiseClocks 3 none ∈ wsL_law := in_r19 _ (List.mem_of_getElem? (i := 9) rfl)
theorem wd_ml_X0_43 : Cond.methodLink RX0 43 Lib.Math.max.name ∈ wsL_law := in_r19 _ (List.mem_of_getElem? (i := 10) rfl)
theorem wd_ml_L_45 : Cond.methodLink RL 45 yX5_letGo ∈ wsL_law := in_r19 _ (List.mem_of_getElem? (i := 11) rfl)
theorem wd_im_X5_letGo : Cond.instanceMethod yX5_letGo ∈ wsL_law := in_r19 _ (List.mem_of_getElem? (i := 12) rfl)
theorem wd_se_X5_X5_letGo : Cond.selects RX5 yX5_letGo yX5_letGo ∈ wsL_law := in_r19 _ (List.mem_of_getElem? (i := 13) rfl)
theorem wd_co_X5_letGo : Cond.code yX5_letGo cX5_letGo 1 (some .int) ∈ wsL_law := in_r19 _ (List.mem_of_getElem? (i := 14) rfl)
theorem wd_ml_X5_137 : Cond.methodLink RX5 137 yX5_allMay ∈ wsL_law := in_r19 _ (List.mem_of_getElem? (i := 15) rfl)
theorem wd_im_X5_allMay : Cond.instanceMethod yX5_allMay ∈ wsL_law := in_r19 _ (List.mem_of_getElem? (i := 16) rfl)
theorem wd_se_X5_X5_allMay : Cond.selects RX5 yX5_allMay yX5_allMay ∈ wsL_law := in_r19 _ (List.mem_of_getElem? (i := 17) rfl)
theorem wd_co_X5_allMay : Cond.code yX5_allMay cX5_allMay 3 (some .int) ∈ wsL_law := in_r19 _ (List.mem_of_getElem? (i := 18) rfl)
theorem wd_ml_X5_140 : Cond.methodLink RX5 140 yX5_lets ∈ wsL_law := in_r19 _ (List.mem_of_getElem? (i := 19) rfl)
theorem wd_im_X5_lets : Cond.instanceMethod yX5_lets ∈ wsL_law := in_r19 _ (List.mem_of_getElem? (i := 20) rfl)
theorem wd_se_X5_X5_lets : Cond.selects RX5 yX5_lets yX5_lets ∈ wsL_law := in_r19 _ (List.mem_of_getElem? (i := 21) rfl)
theorem wd_co_X5_lets : Cond.code yX5_lets cX5_lets 3 (some .int) ∈ wsL_law := in_r19 _ (List.mem_of_getElem? (i := 22) rfl)
theorem wd_ml_X5_118 : Cond.methodLink RX5 118 yX5_leastTime ∈ wsL_law := in_r19 _ (List.mem_of_getElem? (i := 23) rfl)
theorem wd_im_X5_leastTime : Cond.instanceMethod yX5_leastTime ∈ wsL_law := in_r20 _ (List.mem_of_getElem? (i := 0) rfl)
theorem wd_se_X5_X5_leastTime : Cond.selects RX5 yX5_leastTime yX5_leastTime ∈ wsL_law := in_r20 _ (List.mem_of_getElem? (i := 1) rfl)
theorem wd_co_X5_leastTime : Cond.code yX5_leastTime cX5_leastTime 4 (some .int) ∈ wsL_law := in_r20 _ (List.mem_of_getElem? (i := 2) rfl)
theorem wd_ml_L_46 : Cond.methodLink RL 46 yX4_finish ∈ wsL_law := in_r20 _ (List.mem_of_getElem? (i := 3) rfl)
theorem wd_im_X4_finish : Cond.instanceMethod yX4_finish ∈ wsL_law := in_r20 _ (List.mem_of_getElem? (i := 4) rfl)
theorem wd_se_X4_X4_finish : Cond.selects RX4 yX4_finish yX4_finish ∈ wsL_law := in_r20 _ (List.mem_of_getElem? (i := 5) rfl)
theorem wd_co_X4_finish : Cond.code yX4_finish cX4_finish 4 (some .int) ∈ wsL_law := in_r20 _ (List.mem_of_getElem? (i := 6) rfl)
theorem wd_ml_L_49 : Cond.methodLink RL 49 yX5_finish ∈ wsL_law := in_r20 _ (List.mem_of_getElem? (i := 7) rfl)
theorem wd_im_X5_finish : Cond.instanceMethod yX5_finish ∈ wsL_law := in_r20 _ (List.mem_of_getElem? (i := 8) rfl)
theorem wd_se_X5_X5_finish : Cond.selects RX5 yX5_finish yX5_finish ∈ wsL_law := in_r20 _ (List.mem_of_getElem? (i := 9) rfl)
theorem wd_co_X5_finish : Cond.code yX5_finish cX5_finish 5 (some .int) ∈ wsL_law := in_r20 _ (List.mem_of_getElem? (i := 10) rfl)
theorem wd_ml_L_50 : Cond.methodLink RL 50 yX4_told ∈ wsL_law := in_r20 _ (List.mem_of_getElem? (i := 11) rfl)
theorem wd_im_X4_told : Cond.instanceMethod yX4_told ∈ wsL_law := in_r20 _ (List.mem_of_getElem? (i := 12) rfl)
theorem wd_se_X4_X4_told : Cond.selects RX4 yX4_told yX4_told ∈ wsL_law := in_r20 _ (List.mem_of_getElem? (i := 13) rfl)
theorem wd_co_X4_told : Cond.code yX4_told cX4_told 2 (some .int) ∈ wsL_law := in_r20 _ (List.mem_of_getElem? (i := 14) rfl)
theorem wd_fk_X4_135 : Cond.fieldLink RX4 135 "SafeParts$Log" "size" "I" ∈ wsL_law := in_r20 _ (List.mem_of_getElem? (i := 15) rfl)
theorem wd_ml_L_53 : Cond.methodLink RL 53 yX5_told ∈ wsL_law := in_r20 _ (List.mem_of_getElem? (i := 16) rfl)
theorem wd_im_X5_told : Cond.instanceMethod yX5_told ∈ wsL_law := in_r20 _ (List.mem_of_getElem? (i := 17) rfl)
theorem wd_se_X5_X5_told : Cond.selects RX5 yX5_told yX5_told ∈ wsL_law := in_r20 _ (List.mem_of_getElem? (i := 18) rfl)
theorem wd_co_X5_told : Cond.code yX5_told cX5_told 2 (some .int) ∈ wsL_law := in_r20 _ (List.mem_of_getElem? (i := 19) rfl)
theorem wd_ml_L_54 : Cond.methodLink RL 54 yX4_part ∈ wsL_law := in_r20 _ (List.mem_of_getElem? (i := 20) rfl)
theorem wd_im_X4_part : Cond.instanceMethod yX4_part ∈ wsL_law := in_r20 _ (List.mem_of_getElem? (i := 21) rfl)
theorem wd_se_X4_X4_part : Cond.selects RX4 yX4_part yX4_part ∈ wsL_law := in_r20 _ (List.mem_of_getElem? (i := 22) rfl)
theorem wd_co_X4_part : Cond.code yX4_part cX4_part 3 (some .int) ∈ wsL_law := in_r20 _ (List.mem_of_getElem? (i := 23) rfl)
theorem wd_fk_X4_146 : Cond.fieldLink RX4 146 "SafeParts$World" "count" "[I" ∈ wsL_law := in_r21 _ (List.mem_of_getElem? (i := 0) rfl)
theorem wd_fk_X4_149 : Cond.fieldLink RX4 149 "SafeParts$World" "sum" "[I" ∈ wsL_law := in_r21 _ (List.mem_of_getElem? (i := 1) rfl)
theorem wd_fk_X4_160 : Cond.fieldLink RX4 160 "SafeParts$Waiting" "size" "I" ∈ wsL_law := in_r21 _ (List.mem_of_getElem? (i := 2) rfl)
theorem wd_ml_X4_152 : Cond.methodLink RX4 152 yX3_safeOf ∈ wsL_law := in_r21 _ (List.mem_of_getElem? (i := 3) rfl)
theorem wd_ml_X4_172 : Cond.methodLink RX4 172 yX3_channelWaitedFor ∈ wsL_law := in_r21 _ (List.mem_of_getElem? (i := 4) rfl)
theorem wd_ml_X4_175 : Cond.methodLink RX4 175 yX0_countFrom ∈ wsL_law := in_r21 _ (List.mem_of_getElem? (i := 5) rfl)
theorem wd_ml_X4_178 : Cond.methodLink RX4 178 yX0_countTo ∈ wsL_law := in_r21 _ (List.mem_of_getElem? (i := 6) rfl)
theorem wd_im_X0_countTo : Cond.instanceMethod yX0_countTo ∈ wsL_law := in_r21 _ (List.mem_of_getElem? (i := 7) rfl)
theorem wd_se_X0_X0_countTo : Cond.selects RX0 yX0_countTo yX0_countTo ∈ wsL_law := in_r21 _ (List.mem_of_getElem? (i := 8) rfl)
theorem wd_co_X0_countTo : Cond.code yX0_countTo cX0_countTo 4 (some .int) ∈ wsL_law := in_r21 _ (List.mem_of_getElem? (i := 9) rfl)
theorem wd_ml_L_57 : Cond.methodLink RL 57 yX5_part ∈ wsL_law := in_r21 _ (List.mem_of_getElem? (i := 10) rfl)
theorem wd_im_X5_part : Cond.instanceMethod yX5_part ∈ wsL_law := in_r21 _ (List.mem_of_getElem? (i := 11) rfl)
theorem wd_se_X5_X5_part : Cond.selects RX5 yX5_part yX5_part ∈ wsL_law := in_r21 _ (List.mem_of_getElem? (i := 12) rfl)
theorem wd_co_X5_part : Cond.code yX5_part cX5_part 3 (some .int) ∈ wsL_law := in_r21 _ (List.mem_of_getElem? (i := 13) rfl)
theorem wd_ml_X5_143 : Cond.methodLink RX5 143 yX5_firstValue ∈ wsL_law := in_r21 _ (List.mem_of_getElem? (i := 14) rfl)
theorem wd_im_X5_firstValue : Cond.instanceMethod yX5_firstValue ∈ wsL_law := in_r21 _ (List.mem_of_getElem? (i := 15) rfl)
theorem wd_se_X5_X5_firstValue : Cond.selects RX5 yX5_firstValue yX5_firstValue ∈ wsL_law := in_r21 _ (List.mem_of_getElem? (i := 16) rfl)
theorem wd_co_X5_firstValue : Cond.code yX5_firstValue cX5_firstValue 3 (some .int) ∈ wsL_law := in_r21 _ (List.mem_of_getElem? (i := 17) rfl)
theorem wd_ml_X5_146 : Cond.methodLink RX5 146 yX5_waitsBy ∈ wsL_law := in_r21 _ (List.mem_of_getElem? (i := 18) rfl)
theorem wd_im_X5_waitsBy : Cond.instanceMethod yX5_waitsBy ∈ wsL_law := in_r21 _ (List.mem_of_getElem? (i := 19) rfl)
theorem wd_se_X5_X5_waitsBy : Cond.selects RX5 yX5_waitsBy yX5_waitsBy ∈ wsL_law := in_r21 _ (List.mem_of_getElem? (i := 20) rfl)
theorem wd_co_X5_waitsBy : Cond.code yX5_waitsBy cX5_waitsBy 2 (some .int) ∈ wsL_law := in_r21 _ (List.mem_of_getElem? (i := 21) rfl)
theorem wd_ml_X5_149 : Cond.methodLink RX5 149 yX5_waysTo ∈ wsL_law := in_r21 _ (List.mem_of_getElem? (i := 22) rfl)
theorem wd_im_X5_waysTo : Cond.instanceMethod yX5_waysTo ∈ wsL_law := in_r21 _ (List.mem_of_getElem? (i := 23) rfl)
theorem wd_se_X5_X5_waysTo : Cond.selects RX5 yX5_waysTo yX5_waysTo ∈ wsL_law := in_r22 _ (List.mem_of_getElem? (i := 0) rfl)
theorem wd_co_X5_waysTo : Cond.code yX5_waysTo cX5_waysTo 4 (some .int) ∈ wsL_law := in_r22 _ (List.mem_of_getElem? (i := 1) rfl)
theorem wd_ml_L_58 : Cond.methodLink RL 58 yX4_channelOf ∈ wsL_law := in_r22 _ (List.mem_of_getElem? (i := 2) rfl)
theorem wd_im_X4_channelOf : Cond.instanceMethod yX4_channelOf ∈ wsL_law := in_r22 _ (List.mem_of_getElem? (i := 3) rfl)
theorem wd_se_X4_X4_channelOf : Cond.selects RX4 yX4_channelOf yX4_channelOf ∈ wsL_law := in_r22 _ (List.mem_of_getElem? (i := 4) rfl)
theorem wd_co_X4_channelOf : Cond.code yX4_channelOf cX4_channelOf 4 (some .int) ∈ wsL_law := in_r22 _ (List.mem_of_getElem? (i := 5) rfl)
theorem wd_fk_X4_181 : Cond.fieldLink RX4 181 "SafeParts$Channels" "from" "[I" ∈ wsL_law := in_r22 _ (List.mem_of_getElem? (i := 6) rfl)
theorem wd_fk_X4_184 : Cond.fieldLink RX4 184 "SafeParts$Channels" "to" "[I" ∈ wsL_law := in_r22 _ (List.mem_of_getElem? (i := 7) rfl)
theorem wd_fk_X4_187 : Cond.fieldLink RX4 187 "SafeParts$Channels" "promise" "[I" ∈ wsL_law := in_r22 _ (List.mem_of_getElem? (i := 8) rfl)
theorem wd_fk_X4_190 : Cond.fieldLink RX4 190 "SafeParts$Channels" "delay" "[I" ∈ wsL_law := in_r22 _ (List.mem_of_getElem? (i := 9) rfl)
theorem wd_fk_X4_193 : Cond.fieldLink RX4 193 "SafeParts$Channels" "clock" "[I" ∈ wsL_law := in_r22 _ (List.mem_of_getElem? (i := 10) rfl)
theorem wd_fk_X4_196 : Cond.fieldLink RX4 196 "SafeParts$Channels" "letters" "[I" ∈ wsL_law := in_r22 _ (List.mem_of_getElem? (i := 11) rfl)
theorem wd_fk_X4_199 : Cond.fieldLink RX4 199 "SafeParts$Channels" "empties" "[I" ∈ wsL_law := in_r22 _ (List.mem_of_getElem? (i := 12) rfl)
theorem wd_ml_L_61 : Cond.methodLink RL 61 yX5_channelOf ∈ wsL_law := in_r22 _ (List.mem_of_getElem? (i := 13) rfl)
theorem wd_im_X5_channelOf : Cond.instanceMethod yX5_channelOf ∈ wsL_law := in_r22 _ (List.mem_of_getElem? (i := 14) rfl)
theorem wd_se_X5_X5_channelOf : Cond.selects RX5 yX5_channelOf yX5_channelOf ∈ wsL_law := in_r22 _ (List.mem_of_getElem? (i := 15) rfl)
theorem wd_co_X5_channelOf : Cond.code yX5_channelOf cX5_channelOf 3 (some .int) ∈ wsL_law := in_r22 _ (List.mem_of_getElem? (i := 16) rfl)
theorem wd_ml_X5_152 : Cond.methodLink RX5 152 yX5_isChannel ∈ wsL_law := in_r22 _ (List.mem_of_getElem? (i := 17) rfl)
theorem wd_im_X5_isChannel : Cond.instanceMethod yX5_isChannel ∈ wsL_law := in_r22 _ (List.mem_of_getElem? (i := 18) rfl)
theorem wd_se_X5_X5_isChannel : Cond.selects RX5 yX5_isChannel yX5_isChannel ∈ wsL_law := in_r22 _ (List.mem_of_getElem? (i := 19) rfl)
theorem wd_co_X5_isChannel : Cond.code yX5_isChannel cX5_isChannel 2 (some .boolean) ∈ wsL_law := in_r22 _ (List.mem_of_getElem? (i := 20) rfl)
theorem wd_ml_L_62 : Cond.methodLink RL 62 yX4_between ∈ wsL_law := in_r22 _ (List.mem_of_getElem? (i := 21) rfl)
theorem wd_im_X4_between : Cond.instanceMethod yX4_between ∈ wsL_law := in_r22 _ (List.mem_of_getElem? (i := 22) rfl)
theorem wd_se_X4_X4_between : Cond.selects RX4 yX4_between yX4_between ∈ wsL_law := in_r22 _ (List.mem_of_getElem? (i := 23) rfl)
theorem wd_co_X4_between : Cond.code yX4_between cX4_between 3 (some .int) ∈ wsL_law := in_r23 _ (List.mem_of_getElem? (i := 0) rfl)
theorem wd_ml_L_65 : Cond.methodLink RL 65 yX5_between ∈ wsL_law := in_r23 _ (List.mem_of_getElem? (i := 1) rfl)
theorem wd_im_X5_between : Cond.instanceMethod yX5_between ∈ wsL_law := in_r23 _ (List.mem_of_getElem? (i := 2) rfl)
theorem wd_se_X5_X5_between : Cond.selects RX5 yX5_between yX5_between ∈ wsL_law := in_r23 _ (List.mem_of_getElem? (i := 3) rfl)
theorem wd_co_X5_between : Cond.code yX5_between cX5_between 3 (some .int) ∈ wsL_law := in_r23 _ (List.mem_of_getElem? (i := 4) rfl)
theorem wd_ml_L_66 : Cond.methodLink RL 66 yX4_record ∈ wsL_law := in_r23 _ (List.mem_of_getElem? (i := 5) rfl)
theorem wd_im_X4_record : Cond.instanceMethod yX4_record ∈ wsL_law := in_r23 _ (List.mem_of_getElem? (i := 6) rfl)
theorem wd_se_X4_X4_record : Cond.selects RX4 yX4_record yX4_record ∈ wsL_law := in_r23 _ (List.mem_of_getElem? (i := 7) rfl)
theorem wd_co_X4_record : Cond.code yX4_record cX4_record 3 (some .int) ∈ wsL_law := in_r23 _ (List.mem_of_getElem? (i := 8) rfl)
theorem wd_fk_X4_202 : Cond.fieldLink RX4 202 "SafeParts$Log" "part" "[I" ∈ wsL_law := in_r23 _ (List.mem_of_getElem? (i := 9) rfl)
theorem wd_fk_X4_205 : Cond.fieldLink RX4 205 "SafeParts$Log" "time" "[I" ∈ wsL_law := in_r23 _ (List.mem_of_getElem? (i := 10) rfl)
theorem wd_fk_X4_208 : Cond.fieldLink RX4 208 "SafeParts$Log" "value" "[I" ∈ wsL_law := in_r23 _ (List.mem_of_getElem? (i := 11) rfl)
theorem wd_fk_X4_211 : Cond.fieldLink RX4 211 "SafeParts$Log" "round" "[I" ∈ wsL_law := in_r23 _ (List.mem_of_getElem? (i := 12) rfl)
theorem wd_ml_L_69 : Cond.methodLink RL 69 yX5_record ∈ wsL_law := in_r23 _ (List.mem_of_getElem? (i := 13) rfl)
theorem wd_im_X5_record : Cond.instanceMethod yX5_record ∈ wsL_law := in_r23 _ (List.mem_of_getElem? (i := 14) rfl)
theorem wd_se_X5_X5_record : Cond.selects RX5 yX5_record yX5_record ∈ wsL_law := in_r23 _ (List.mem_of_getElem? (i := 15) rfl)
theorem wd_co_X5_record : Cond.code yX5_record cX5_record 3 (some .int) ∈ wsL_law := in_r23 _ (List.mem_of_getElem? (i := 16) rfl)
theorem wd_cl_X5_155 : Cond.constantLong RX5 155 (3) ∈ wsL_law := in_r23 _ (List.mem_of_getElem? (i := 17) rfl)
theorem wd_ml_L_70 : Cond.methodLink RL 70 yX4_ring ∈ wsL_law := in_r23 _ (List.mem_of_getElem? (i := 18) rfl)
theorem wd_im_X4_ring : Cond.instanceMethod yX4_ring ∈ wsL_law := in_r23 _ (List.mem_of_getElem? (i := 19) rfl)
theorem wd_se_X4_X4_ring : Cond.selects RX4 yX4_ring yX4_ring ∈ wsL_law := in_r23 _ (List.mem_of_getElem? (i := 20) rfl)
theorem wd_co_X4_ring : Cond.code yX4_ring cX4_ring 3 (some .int) ∈ wsL_law := in_r23 _ (List.mem_of_getElem? (i := 21) rfl)
theorem wd_ct_X4_217 : Cond.constant RX4 217 (99999999) ∈ wsL_law := in_r23 _ (List.mem_of_getElem? (i := 22) rfl)
theorem wd_ml_X4_214 : Cond.methodLink RX4 214 yX4_leastPromisesRound ∈ wsL_law := in_r23 _ (List.mem_of_getElem? (i := 23) rfl)
theorem wd_im_X4_leastPromisesRound : Cond.instanceMethod yX4_leastPromisesRound ∈ wsL_law := in_r24 _ (List.mem_of_getElem? (i := 0) rfl)
theorem wd_se_X4_X4_leastPromisesRound : Cond.selects RX4 yX4_leastPromisesRound yX4_leastPromisesRound ∈ wsL_law := in_r24 _ (List.mem_of_getElem? (i := 1) rfl)
theorem wd_co_X4_leastPromisesRound : Cond.code yX4_leastPromisesRound cX4_leastPromisesRound 8 (some .int) ∈ wsL_law := in_r24 _ (List.mem_of_getElem? (i := 2) rfl)
theorem wd_ml_X4_253 : Cond.methodLink RX4 253 Lib.Math.min.name ∈ wsL_law := in_r24 _ (List.mem_of_getElem? (i := 3) rfl)
theorem wd_ml_L_73 : Cond.methodLink RL 73 yX5_ring ∈ wsL_law := in_r24 _ (List.mem_of_getElem? (i := 4) rfl)
theorem wd_im_X5_ring : Cond.instanceMethod yX5_ring ∈ wsL_law := in_r24 _ (List.mem_of_getElem? (i := 5) rfl)
theorem wd_se_X5_X5_ring : Cond.selects RX5 yX5_ring yX5_ring ∈ wsL_law := in_r24 _ (List.mem_of_getElem? (i := 6) rfl)
theorem wd_co_X5_ring : Cond.code yX5_ring cX5_ring 2 (some .int) ∈ wsL_law := in_r24 _ (List.mem_of_getElem? (i := 7) rfl)
theorem wd_ml_L_74 : Cond.methodLink RL 74 yX4_waits ∈ wsL_law := in_r24 _ (List.mem_of_getElem? (i := 8) rfl)
theorem wd_im_X4_waits : Cond.instanceMethod yX4_waits ∈ wsL_law := in_r24 _ (List.mem_of_getElem? (i := 9) rfl)
theorem wd_se_X4_X4_waits : Cond.selects RX4 yX4_waits yX4_waits ∈ wsL_law := in_r24 _ (List.mem_of_getElem? (i := 10) rfl)
theorem wd_co_X4_waits : Cond.code yX4_waits cX4_waits 6 (some .int) ∈ wsL_law := in_r24 _ (List.mem_of_getElem? (i := 11) rfl)
theorem wd_ml_L_77 : Cond.methodLink RL 77 yX5_waits ∈ wsL_law := in_r24 _ (List.mem_of_getElem? (i := 12) rfl)
theorem wd_im_X5_waits : Cond.instanceMethod yX5_waits ∈ wsL_law := in_r24 _ (List.mem_of_getElem? (i := 13) rfl)
theorem wd_se_X5_X5_waits : Cond.selects RX5 yX5_waits yX5_waits ∈ wsL_law := in_r24 _ (List.mem_of_getElem? (i := 14) rfl)
theorem wd_co_X5_waits : Cond.code yX5_waits cX5_waits 6 (some .int) ∈ wsL_law := in_r24 _ (List.mem_of_getElem? (i := 15) rfl)
theorem wd_ml_X5_157 : Cond.methodLink RX5 157 yX5_has ∈ wsL_law := in_r24 _ (List.mem_of_getElem? (i := 16) rfl)
theorem wd_st_X5_has : Cond.static yX5_has ∈ wsL_law := in_r24 _ (List.mem_of_getElem? (i := 17) rfl)
theorem wd_co_X5_has : Cond.code yX5_has cX5_has 2 (some .boolean) ∈ wsL_law := in_r24 _ (List.mem_of_getElem? (i := 18) rfl)
theorem wd_ml_L_78 : Cond.methodLink RL 78 yX4_inOrder ∈ wsL_law := in_r24 _ (List.mem_of_getElem? (i := 19) rfl)
theorem wd_im_X4_inOrder : Cond.instanceMethod yX4_inOrder ∈ wsL_law := in_r24 _ (List.mem_of_getElem? (i := 20) rfl)
theorem wd_se_X4_X4_inOrder : Cond.selects RX4 yX4_inOrder yX4_inOrder ∈ wsL_law := in_r24 _ (List.mem_of_getElem? (i := 21) rfl)
theorem wd_co_X4_inOrder : Cond.code yX4_inOrder cX4_inOrder 4 (some .int) ∈ wsL_law := in_r24 _ (List.mem_of_getElem? (i := 22) rfl)
theorem wd_ml_X4_218 : Cond.methodLink RX4 218 yX3_copyFrom ∈ wsL_law := in_r24 _ (List.mem_of_getElem? (i := 23) rfl)
theorem wd_im_X3_copyFrom : Cond.instanceMethod yX3_copyFrom ∈ wsL_law := in_r25 _ (List.mem_of_getElem? (i := 0) rfl)
theorem wd_se_X3_X3_copyFrom : Cond.selects RX3 yX3_copyFrom yX3_copyFrom ∈ wsL_law := in_r25 _ (List.mem_of_getElem? (i := 1) rfl)
theorem wd_co_X3_copyFrom : Cond.code yX3_copyFrom cX3_copyFrom 3 none ∈ wsL_law := in_r25 _ (List.mem_of_getElem? (i := 2) rfl)
theorem wd_ml_X3_61 : Cond.methodLink RX3 61 yX0_copyFrom ∈ wsL_law := in_r25 _ (List.mem_of_getElem? (i := 3) rfl)
theorem wd_im_X0_copyFrom : Cond.instanceMethod yX0_copyFrom ∈ wsL_law := in_r25 _ (List.mem_of_getElem? (i := 4) rfl)
theorem wd_se_X0_X0_copyFrom : Cond.selects RX0 yX0_copyFrom yX0_copyFrom ∈ wsL_law := in_r25 _ (List.mem_of_getElem? (i := 5) rfl)
theorem wd_co_X0_copyFrom : Cond.code yX0_copyFrom cX0_copyFrom 2 none ∈ wsL_law := in_r25 _ (List.mem_of_getElem? (i := 6) rfl)
theorem wd_ml_X0_37 : Cond.methodLink RX0 37 arraycopyName ∈ wsL_law := in_r25 _ (List.mem_of_getElem? (i := 7) rfl)
theorem wd_ml_X3_65 : Cond.methodLink RX3 65 yX2_copyFrom ∈ wsL_law := in_r25 _ (List.mem_of_getElem? (i := 8) rfl)
theorem wd_im_X2_copyFrom : Cond.instanceMethod yX2_copyFrom ∈ wsL_law := in_r25 _ (List.mem_of_getElem? (i := 9) rfl)
theorem wd_se_X2_X2_copyFrom : Cond.selects RX2 yX2_copyFrom yX2_copyFrom ∈ wsL_law := in_r25 _ (List.mem_of_getElem? (i := 10) rfl)
theorem wd_co_X2_copyFrom : Cond.code yX2_copyFrom cX2_copyFrom 2 none ∈ wsL_law := in_r25 _ (List.mem_of_getElem? (i := 11) rfl)
theorem wd_ml_X4_222 : Cond.methodLink RX4 222 yX3_partOfLeastTime ∈ wsL_law := in_r25 _ (List.mem_of_getElem? (i := 12) rfl)
theorem wd_ml_L_81 : Cond.methodLink RL 81 yX5_inOrder ∈ wsL_law := in_r25 _ (List.mem_of_getElem? (i := 13) rfl)
theorem wd_im_X5_inOrder : Cond.instanceMethod yX5_inOrder ∈ wsL_law := in_r25 _ (List.mem_of_getElem? (i := 14) rfl)
theorem wd_se_X5_X5_inOrder : Cond.selects RX5 yX5_inOrder yX5_inOrder ∈ wsL_law := in_r25 _ (List.mem_of_getElem? (i := 15) rfl)
theorem wd_co_X5_inOrder : Cond.code yX5_inOrder cX5_inOrder 8 (some .int) ∈ wsL_law := in_r25 _ (List.mem_of_getElem? (i := 16) rfl)
theorem wd_ml_X5_160 : Cond.methodLink RX5 160 yX5_copy ∈ wsL_law := in_r25 _ (List.mem_of_getElem? (i := 17) rfl)
theorem wd_im_X5_copy : Cond.instanceMethod yX5_copy ∈ wsL_law := in_r25 _ (List.mem_of_getElem? (i := 18) rfl)
theorem wd_se_X5_X5_copy : Cond.selects RX5 yX5_copy yX5_copy ∈ wsL_law := in_r25 _ (List.mem_of_getElem? (i := 19) rfl)
theorem wd_co_X5_copy : Cond.code yX5_copy cX5_copy 4 none ∈ wsL_law := in_r25 _ (List.mem_of_getElem? (i := 20) rfl)
theorem wd_ml_L_82 : Cond.methodLink RL 82 yX4_keep ∈ wsL_law := in_r25 _ (List.mem_of_getElem? (i := 21) rfl)
theorem wd_im_X4_keep : Cond.instanceMethod yX4_keep ∈ wsL_law := in_r25 _ (List.mem_of_getElem? (i := 22) rfl)
theorem wd_se_X4_X4_keep : Cond.selects RX4 yX4_keep yX4_keep ∈ wsL_law := in_r25 _ (List.mem_of_getElem? (i := 23) rfl)
theorem wd_co_X4_keep : Cond.code yX4_keep cX4_keep 2 (some .int) ∈ wsL_law := in_r26 _ (List.mem_of_getElem? (i := 0) rfl)
theorem wd_ml_X4_228 : Cond.methodLink RX4 228 yX4_isNoImage ∈ wsL_law := in_r26 _ (List.mem_of_getElem? (i := 1) rfl)
theorem wd_st_X4_isNoImage : Cond.static yX4_isNoImage ∈ wsL_law := in_r26 _ (List.mem_of_getElem? (i := 2) rfl)
theorem wd_co_X4_isNoImage : Cond.code yX4_isNoImage cX4_isNoImage 1 (some .boolean) ∈ wsL_law := in_r26 _ (List.mem_of_getElem? (i := 3) rfl)
theorem wd_ml_L_85 : Cond.methodLink RL 85 yX5_keep ∈ wsL_law := in_r26 _ (List.mem_of_getElem? (i := 4) rfl)
theorem wd_im_X5_keep : Cond.instanceMethod yX5_keep ∈ wsL_law := in_r26 _ (List.mem_of_getElem? (i := 5) rfl)
theorem wd_se_X5_X5_keep : Cond.selects RX5 yX5_keep yX5_keep ∈ wsL_law := in_r26 _ (List.mem_of_getElem? (i := 6) rfl)
theorem wd_co_X5_keep : Cond.code yX5_keep cX5_keep 2 (some .int) ∈ wsL_law := in_r26 _ (List.mem_of_getElem? (i := 7) rfl)
theorem wd_ml_L_86 : Cond.methodLink RL 86 yX4_goBack ∈ wsL_law := in_r26 _ (List.mem_of_getElem? (i := 8) rfl)
theorem wd_im_X4_goBack : Cond.instanceMethod yX4_goBack ∈ wsL_law := in_r26 _ (List.mem_of_getElem? (i := 9) rfl)
theorem wd_se_X4_X4_goBack : Cond.selects RX4 yX4_goBack yX4_goBack ∈ wsL_law := in_r26 _ (List.mem_of_getElem? (i := 10) rfl)
theorem wd_co_X4_goBack : Cond.code yX4_goBack cX4_goBack 2 (some .int) ∈ wsL_law := in_r26 _ (List.mem_of_getElem? (i := 11) rfl)
theorem wd_ml_L_89 : Cond.methodLink RL 89 yX5_goBack ∈ wsL_law := in_r26 _ (List.mem_of_getElem? (i := 12) rfl)
theorem wd_im_X5_goBack : Cond.instanceMethod yX5_goBack ∈ wsL_law := in_r26 _ (List.mem_of_getElem? (i := 13) rfl)
theorem wd_se_X5_X5_goBack : Cond.selects RX5 yX5_goBack yX5_goBack ∈ wsL_law := in_r26 _ (List.mem_of_getElem? (i := 14) rfl)
theorem wd_co_X5_goBack : Cond.code yX5_goBack cX5_goBack 2 (some .int) ∈ wsL_law := in_r26 _ (List.mem_of_getElem? (i := 15) rfl)
end
section
/-! the system's cells as ONE picture: 162 cells of a fixed shape; what moves is numbers (Mem) -/
abbrev Mem : Type := (Nat → Nat → Int32) × Int64
abbrev Shp : Type := (Bool × Nat) ⊕ ((Bool × Nat × (Nat → Nat)) ⊕ (Nat × List (Nat ⊕ Bool)))
def rd (M : Mem) (i k : Nat) : Int32 := M.1 i k
def wr (M : Mem) (i k : Nat) (v : Int32) : Mem := (fun j => if j = i then upd (M.1 i) k v else M.1 j, M.2)
def rdJ (M : Mem) : Int64 := M.2
def wrJ (M : Mem) (v : Int64) : Mem := (M.1, v)
def cpM (M : Mem) (i0 i1 : Nat) (sp dp n : Nat) : Mem := (fun j => if j = i1 then va_cpy (M.1 i0) (M.1 i1) sp dp n else M.1 j, M.2)
-- shapes
def iarr (n : Nat) : Shp := .inl (false, n)
def zarr (n : Nat) : Shp := .inl (true, n)
def rarr (b : Bool) (n : Nat) (f : Nat → Nat) : Shp := .inr (.inl (b, n, f))
def objS (ci : Nat) (fl : List (Nat ⊕ Bool)) : Shp := .inr (.inr (ci, fl))
def shCh (c j : Nat) : Shp := if j = 0 then objS 0 [.inl (c + 1), .inl (c + 2), .inl (c + 3), .inl (c + 4), .inl (c + 5), .inl (c + 6), .inl (c + 7), .inr false] else iarr 12
def shWt (e j : Nat) : Shp := if j = 0 then objS 2 [.inl (e + 1), .inl (e + 2), .inl (e + 3), .inr false] else iarr 30
def shWo (w j : Nat) : Shp := if j = 0 then objS 3 [.inl (w + 1), .inl (w + 12), .inl (w + 9), .inl (w + 10), .inl (w + 11), .inr false, .inr false, .inr false, .inr false, .inr false, .inr false, .inr false]
  else if j < 9 then shCh (w + 1) (j - 1) else if j < 12 then iarr 6 else if j = 12 then rarr false 6 (fun p => w + 12 + 1 + 4 * p)
  else shWt (w + 12 + 1 + 4 * ((j - 13) / 4)) ((j - 13) % 4)
def shp (i : Nat) : Shp :=
  if i = 0 then objS 4 [.inl 1, .inl 38, .inl 75, .inl 150, .inl 151, .inl 156]
  else if i < 75 then shWo (1 + 37 * ((i - 1) / 37)) ((i - 1) % 37)
  else if i = 75 then rarr true 2 (fun p => 75 + 1 + 37 * p)
  else if i < 150 then shWo (76 + 37 * ((i - 76) / 37)) ((i - 76) % 37)
  else if i = 150 then zarr 2
  else if i = 151 then objS 1 [.inl 152, .inl 153, .inl 154, .inl 155, .inr false]
  else if i < 156 then iarr 200
  else if i = 156 then iarr 6
  else if i = 157 then objS 5 [.inl 158, .inl 159, .inr false, .inl 160, .inr true, .inl 161]
  else if i = 158 then iarr 1048
  else if i = 159 then zarr 2
  else if i = 160 then iarr 800
  else if i = 161 then iarr 6
  else zarr 0
theorem shp_lt {i : Nat} (h : shp i ≠ zarr 0) : i < 162 := by
  rcases Nat.lt_or_ge i 162 with q | q
  · exact q
  · exact absurd (by unfold shp; rw [if_neg (by omega), if_neg (by omega), if_neg (by omega), if_neg (by omega), if_neg (by omega), if_neg (by omega), if_neg (by omega), if_neg (by omega), if_neg (by omega), if_neg (by omega), if_neg (by omega), if_neg (by omega), if_neg (by omega)]) h
def K2 (e : Nat) : Prop := shp e = objS 2 [.inl (e + 1), .inl (e + 2), .inl (e + 3), .inr false] ∧ shp (e + 1) = iarr 30 ∧ shp (e + 2) = iarr 30 ∧ shp (e + 3) = iarr 30
def K0 (c : Nat) : Prop := shp c = objS 0 [.inl (c + 1), .inl (c + 2), .inl (c + 3), .inl (c + 4), .inl (c + 5), .inl (c + 6), .inl (c + 7), .inr false] ∧ shp (c + 1) = iarr 12 ∧ shp (c + 2) = iarr 12 ∧ shp (c + 3) = iarr 12 ∧ shp (c + 4) = iarr 12 ∧ shp (c + 5) = iarr 12 ∧ shp (c + 6) = iarr 12 ∧ shp (c + 7) = iarr 12
def K3 (w : Nat) : Prop := shp w = objS 3 [.inl (w + 1), .inl (w + 12), .inl (w + 9), .inl (w + 10), .inl (w + 11), .inr false, .inr false, .inr false, .inr false, .inr false, .inr false, .inr false] ∧ K0 (w + 1) ∧ shp (w + 9) = iarr 6 ∧ shp (w + 10) = iarr 6 ∧ shp (w + 11) = iarr 6 ∧ shp (w + 12) = rarr false 6 (fun p => w + 12 + 1 + 4 * p) ∧ ∀ p, p < 6 → K2 (w + 12 + 1 + 4 * p)
def K1 (o : Nat) : Prop := shp o = objS 1 [.inl (o + 1), .inl (o + 2), .inl (o + 3), .inl (o + 4), .inr false] ∧ shp (o + 1) = iarr 200 ∧ shp (o + 2) = iarr 200 ∧ shp (o + 3) = iarr 200 ∧ shp (o + 4) = iarr 200
def K4 (t : Nat) : Prop := shp t = objS 4 [.inl (t + 1), .inl (t + 38), .inl (t + 75), .inl (t + 150), .inl (t + 151), .inl (t + 156)] ∧ K3 (t + 1) ∧ K3 (t + 38) ∧ shp (t + 75) = rarr true 2 (fun p => t + 75 + 1 + 37 * p) ∧ (∀ p, p < 2 → K3 (t + 75 + 1 + 37 * p)) ∧ shp (t + 150) = zarr 2 ∧ K1 (t + 151) ∧ shp (t + 156) = iarr 6
def K5 (t : Nat) : Prop := shp t = objS 5 [.inl (t + 1), .inl (t + 2), .inr false, .inl (t + 3), .inr true, .inl (t + 4)] ∧ shp (t + 1) = iarr 1048 ∧ shp (t + 2) = zarr 2 ∧ shp (t + 3) = iarr 800 ∧ shp (t + 4) = iarr 6 ∧ t = 157
-- the picture
def fval (a : Nat → Nat) (M : Mem) (i k : Nat) (o : Nat ⊕ Bool) : Value := match o with
  | .inl j => .ref (a j)
  | .inr false => .int (rd M i k)
  | .inr true => .long (rdJ M)
def contS (a : Nat → Nat) (cy : Nat → ClassId) (M : Mem) (i : Nat) (h : Shp) : va_E := match h with
  | .inl (false, n) => .inl (cy 0, n, .inl (M.1 i))
  | .inl (true, n) => .inl (cy 1, n, .inl (M.1 i))
  | .inr (.inl (false, n, f)) => .inl (cy 2, n, .inr (.inr (.inr (.inr (fun j => some (a (f j)))))))
  | .inr (.inl (true, n, f)) => .inl (cy 3, n, .inr (.inr (.inr (.inr (fun j => some (a (f j)))))))
  | .inr (.inr (ci, fl)) => .inr (ci, fl.mapIdx (fun k o => fval a M i k o))
def cont (a : Nat → Nat) (cy : Nat → ClassId) (M : Mem) (i : Nat) : va_E := contS a cy M i (shp i)
def wsM (a : Nat → Nat) (cy : Nat → ClassId) (M : Mem) : va_W := (List.range 162).map (fun i => (a i, cont a cy M i))
def tysU (cy : Nat → ClassId) : List (ClassId × FieldType) := [(cy 0, .int), (cy 1, .boolean), (cy 2, .object "SafeParts$Waiting"), (cy 3, .object "SafeParts$World")]
def AU (a : Nat → Nat) : Nat → Prop := fun q => ∃ i, i < 162 ∧ q = a i
def injU (a : Nat → Nat) : Prop := ∀ i j, i < 162 → j < 162 → a i = a j → i = j
theorem wsM_at {a : Nat → Nat} {cy : Nat → ClassId} {M : Mem} {i : Nat} (h : i < 162) : (wsM a cy M)[i]? = some (a i, cont a cy M i) := by
  simp [wsM, h]
theorem wsM_inv {a : Nat → Nat} {cy : Nat → ClassId} {M : Mem} {i : Nat} {q : Nat × va_E} (h : (wsM a cy M)[i]? = some q) : i < 162 ∧ q = (a i, cont a cy M i) := by
  have h1 : i < (wsM a cy M).length := (List.getElem?_eq_some_iff.mp h).1
  have h2 : i < 162 := by simpa [wsM] using h1
  refine ⟨h2, ?_⟩
  rw [wsM_at h2] at h
  exact (Option.some.inj h).symm
theorem wsM_D {a : Nat → Nat} {cy : Nat → ClassId} (hi : injU a) (M : Mem) : va_D (AU a) (wsM a cy M) := by
  refine ⟨fun i j p q h1 h2 h3 => ?_, fun k q h => ?_⟩
  · obtain ⟨l1, e1⟩ := wsM_inv h1
    obtain ⟨l2, e2⟩ := wsM_inv h2
    rw [e1, e2] at h3
    exact hi i j l1 l2 h3
  · obtain ⟨l1, e1⟩ := wsM_inv h
    exact ⟨k, l1, by rw [e1]⟩
theorem wsM_set {a : Nat → Nat} {cy : Nat → ClassId} {M M1 : Mem} {i : Nat} {e : va_E} (he : cont a cy M1 i = e) (ho : ∀ j, j < 162 → j ≠ i → cont a cy M1 j = cont a cy M j) : (wsM a cy M).set i (a i, e) = wsM a cy M1 := by
  apply List.ext_getElem?
  intro k
  rw [List.getElem?_set]
  by_cases hk : i = k
  · subst hk
    rw [if_pos rfl]
    by_cases hl : i < 162
    · rw [if_pos (by simpa [wsM] using hl), wsM_at hl, he]
    · rw [if_neg (by simpa [wsM] using hl)]
      simp [wsM, hl]
  · rw [if_neg hk]
    by_cases hl : k < 162
    · rw [wsM_at hl, wsM_at hl, ho k hl (Ne.symm hk)]
    · simp [wsM, hl]
theorem cont_of {a : Nat → Nat} {cy : Nat → ClassId} {M : Mem} {i : Nat} {h : Shp} (hs : shp i = h) : cont a cy M i = contS a cy M i h := by rw [cont, hs]
theorem contS_ext {a : Nat → Nat} {cy : Nat → ClassId} {M M1 : Mem} {i : Nat} {h : Shp} (h1 : M1.1 i = M.1 i) (h2 : M1.2 = M.2) : contS a cy M1 i h = contS a cy M i h := by
  have hf : ∀ k o, fval a M1 i k o = fval a M i k o := fun k o => by
    unfold fval rd rdJ
    rw [h1, h2]
  rcases h with ⟨_ | _, n⟩ | ⟨_ | _, n, f⟩ | ⟨ci, fl⟩ <;> simp only [contS, h1, hf]
theorem wr_ne {M : Mem} {i j k : Nat} {v : Int32} (h : j ≠ i) : (wr M i k v).1 j = M.1 j := by simp [wr, h]
theorem wr_at {M : Mem} {i k : Nat} {v : Int32} : (wr M i k v).1 i = upd (M.1 i) k v := by simp [wr]
theorem wsM_wrA {a : Nat → Nat} {cy : Nat → ClassId} {M : Mem} {i n k : Nat} {v : Int32} (hs : shp i = iarr n) : (wsM a cy M).set i (a i, .inl (cy 0, n, .inl (upd (M.1 i) k v))) = wsM a cy (wr M i k v) :=
  wsM_set (by rw [cont_of hs]; show (Sum.inl (cy 0, n, .inl ((wr M i k v).1 i)) : va_E) = _; rw [wr_at]) (fun j _ hj => contS_ext (wr_ne hj) rfl)
theorem wsM_wrZ {a : Nat → Nat} {cy : Nat → ClassId} {M : Mem} {i n k : Nat} {v : Int32} (hs : shp i = zarr n) : (wsM a cy M).set i (a i, .inl (cy 1, n, .inl (upd (M.1 i) k v))) = wsM a cy (wr M i k v) :=
  wsM_set (by rw [cont_of hs]; show (Sum.inl (cy 1, n, .inl ((wr M i k v).1 i)) : va_E) = _; rw [wr_at]) (fun j _ hj => contS_ext (wr_ne hj) rfl)
theorem wsM_cp {a : Nat → Nat} {cy : Nat → ClassId} {M : Mem} {i0 i1 n sp dp k : Nat} (hs : shp i1 = iarr n) : (wsM a cy M).set i1 (a i1, .inl (cy 0, n, .inl (va_cpy (M.1 i0) (M.1 i1) sp dp k))) = wsM a cy (cpM M i0 i1 sp dp k) :=
  wsM_set (by rw [cont_of hs]; show (Sum.inl (cy 0, n, .inl ((cpM M i0 i1 sp dp k).1 i1)) : va_E) = _; simp [cpM]) (fun j _ hj => contS_ext (by simp [cpM, hj]) rfl)
theorem mapIdx_set {a : Nat → Nat} {M : Mem} {i k : Nat} {fl : List (Nat ⊕ Bool)} {v : Int32} (hk : fl[k]? = some (.inr false)) : (fl.mapIdx (fun k o => fval a M i k o)).set k (.int v) = fl.mapIdx (fun k' o => fval a (wr M i k v) i k' o) := by
  apply List.ext_getElem?
  intro q
  rw [List.getElem?_set, List.getElem?_mapIdx, List.getElem?_mapIdx]
  by_cases h : k = q
  · subst h
    have hl := (List.getElem?_eq_some_iff.mp hk).1
    rw [if_pos rfl, if_pos (by simpa using hl), hk]
    show _ = some (Value.int (rd (wr M i k v) i k))
    simp [rd, wr, upd]
  · rw [if_neg h]
    cases hq : fl[q]? with
    | none => rfl
    | some o =>
      rcases o with j | b
      · rfl
      · cases b with
        | true => rfl
        | false =>
          show some (Value.int (rd M i q)) = some (Value.int (rd (wr M i k v) i q))
          have : q ≠ k := fun e => h e.symm
          simp [rd, wr, upd, this]
theorem mapIdx_setJ {a : Nat → Nat} {M : Mem} {i k : Nat} {fl : List (Nat ⊕ Bool)} {v : Int64} (hk : fl[k]? = some (.inr true)) (hj : ∀ q, fl[q]? = some (.inr true) → q = k) : (fl.mapIdx (fun k o => fval a M i k o)).set k (.long v) = fl.mapIdx (fun k' o => fval a (wrJ M v) i k' o) := by
  apply List.ext_getElem?
  intro q
  rw [List.getElem?_set, List.getElem?_mapIdx, List.getElem?_mapIdx]
  by_cases h : k = q
  · subst h
    have hl := (List.getElem?_eq_some_iff.mp hk).1
    rw [if_pos rfl, if_pos (by simpa using hl), hk]
    rfl
  · rw [if_neg h]
    cases hq : fl[q]? with
    | none => rfl
    | some o =>
      rcases o with j | b
      · rfl
      · cases b with
        | true => exact absurd (hj q hq) (fun e => h e.symm)
        | false => rfl
def hasJ (h : Shp) : Bool := match h with
  | .inr (.inr (_, fl)) => fl.any (fun o => o == .inr true)
  | _ => false
theorem noJ : ∀ j, j < 162 → j ≠ 157 → hasJ (shp j) = false := by decide +kernel
theorem contS_J {a : Nat → Nat} {cy : Nat → ClassId} {M : Mem} {i : Nat} {h : Shp} {v : Int64} (hh : hasJ h = false) : contS a cy (wrJ M v) i h = contS a cy M i h := by
  rcases h with ⟨_ | _, n⟩ | ⟨_ | _, n, f⟩ | ⟨ci, fl⟩
  · rfl
  · rfl
  · rfl
  · rfl
  · show (Sum.inr (ci, fl.mapIdx (fun k o => fval a (wrJ M v) i k o)) : va_E) = .inr (ci, fl.mapIdx (fun k o => fval a M i k o))
    have : fl.mapIdx (fun k o => fval a (wrJ M v) i k o) = fl.mapIdx (fun k o => fval a M i k o) := by
      apply List.ext_getElem?
      intro q
      rw [List.getElem?_mapIdx, List.getElem?_mapIdx]
      cases hq : fl[q]? with
      | none => rfl
      | some o =>
        rcases o with j | b
        · rfl
        · cases b with
          | true =>
            have h1 : fl.any (fun o => o == .inr true) = false := hh
            have h2 := List.any_eq_false.mp h1 _ (List.mem_of_getElem? hq)
            exact absurd (show ((Sum.inr true : Nat ⊕ Bool) == Sum.inr true) = true by decide) h2
          | false => rfl
    rw [this]
theorem wsM_wrO {a : Nat → Nat} {cy : Nat → ClassId} {M : Mem} {i k ci : Nat} {fl : List (Nat ⊕ Bool)} {v : Int32} (hs : shp i = objS ci fl) (hk : fl[k]? = some (.inr false)) : (wsM a cy M).set i (a i, .inr (ci, (fl.mapIdx (fun k o => fval a M i k o)).set k (.int v))) = wsM a cy (wr M i k v) :=
  wsM_set (by rw [cont_of hs]; show (Sum.inr (ci, fl.mapIdx (fun k' o => fval a (wr M i k v) i k' o)) : va_E) = _; rw [mapIdx_set hk]) (fun j _ hj => contS_ext (wr_ne hj) rfl)
theorem wsM_wrJ {a : Nat → Nat} {cy : Nat → ClassId} {M : Mem} {i k ci : Nat} {fl : List (Nat ⊕ Bool)} {v : Int64} (h157 : i = 157) (hs : shp i = objS ci fl) (hk : fl[k]? = some (.inr true)) (hj : ∀ q, fl[q]? = some (.inr true) → q = k) : (wsM a cy M).set i (a i, .inr (ci, (fl.mapIdx (fun k o => fval a M i k o)).set k (.long v))) = wsM a cy (wrJ M v) :=
  wsM_set (by rw [cont_of hs]; show (Sum.inr (ci, fl.mapIdx (fun k' o => fval a (wrJ M v) i k' o)) : va_E) = _; rw [mapIdx_setJ hk hj]) (fun j hl hj => contS_J (noJ j hl (by rw [← h157]; exact hj)))
-- combinators of the decompiled methods
def nm {α β : Type} (x : α) (k : α → β) : β := k x
def ck {α : Type} (i : Int32) (n : Nat) (k : Option α) : Option α := if i < 0 ∨ n ≤ i.toNatClampNeg then none else k
def zk {α : Type} (x : Int32) (k : Option α) : Option α := if x = 0 ∨ x = 1 then k else none
def nz {α : Type} (x : Int32) (k : Option α) : Option α := if x = 0 then none else k
def nzl {α : Type} (x : Int64) (k : Option α) : Option α := if x = 0 then none else k
def bd {α β : Type} (x : Option α) (k : α → Option β) : Option β := match x with
  | none => none
  | some y => k y
def bd2 {α β γ : Type} (x : Option (α × β)) (k : α → β → Option γ) : Option γ := match x with
  | none => none
  | some (y, z) => k y z
def cpk {α : Type} (sp dp n : Int32) (n0 n1 : Nat) (k : Option α) : Option α := if sp < 0 ∨ dp < 0 ∨ n < 0 ∨ n0 < sp.toNatClampNeg + n.toNatClampNeg ∨ n1 < dp.toNatClampNeg + n.toNatClampNeg then none else k
theorem nm_of {α β : Type} {x e : α} {k : α → Option β} {o : β} (h : x = e) (hf : nm e k = some o) : k x = some o := by rw [h]; exact hf
theorem ck_some {α : Type} {i : Int32} {n : Nat} {k : Option α} {o : α} (hf : ck i n k = some o) : vp_in i n ∧ k = some o := by
  unfold ck at hf
  by_cases h : i < 0 ∨ n ≤ i.toNatClampNeg
  · rw [if_pos h] at hf
    cases hf
  · rw [if_neg h] at hf
    exact ⟨h, hf⟩
theorem zk_some {α : Type} {x : Int32} {k : Option α} {o : α} (hf : zk x k = some o) : (x = 0 ∨ x = 1) ∧ k = some o := by
  unfold zk at hf
  by_cases h : x = 0 ∨ x = 1
  · rw [if_pos h] at hf
    exact ⟨h, hf⟩
  · rw [if_neg h] at hf
    cases hf
theorem nz_some {α : Type} {x : Int32} {k : Option α} {o : α} (hf : nz x k = some o) : ¬ x = 0 ∧ k = some o := by
  unfold nz at hf
  by_cases h : x = 0
  · rw [if_pos h] at hf
    cases hf
  · rw [if_neg h] at hf
    exact ⟨h, hf⟩
theorem nzl_some {α : Type} {x : Int64} {k : Option α} {o : α} (hf : nzl x k = some o) : ¬ x = 0 ∧ k = some o := by
  unfold nzl at hf
  by_cases h : x = 0
  · rw [if_pos h] at hf
    cases hf
  · rw [if_neg h] at hf
    exact ⟨h, hf⟩
theorem bd_some {α β : Type} {x : Option α} {k : α → Option β} {o : β} (hf : bd x k = some o) : ∃ y, x = some y ∧ k y = some o := by
  cases x with
  | none => cases hf
  | some y => exact ⟨y, rfl, hf⟩
theorem bd2_some {α β γ : Type} {x : Option (α × β)} {k : α → β → Option γ} {o : γ} (hf : bd2 x k = some o) : ∃ y z, x = some (y, z) ∧ k y z = some o := by
  cases x with
  | none => cases hf
  | some y => exact ⟨y.1, y.2, rfl, hf⟩
theorem cpk_some {α : Type} {sp dp n : Int32} {n0 n1 : Nat} {k : Option α} {o : α} (hf : cpk sp dp n n0 n1 k = some o) : (¬ sp < 0 ∧ ¬ dp < 0 ∧ ¬ n < 0 ∧ sp.toNatClampNeg + n.toNatClampNeg ≤ n0 ∧ dp.toNatClampNeg + n.toNatClampNeg ≤ n1) ∧ k = some o := by
  unfold cpk at hf
  by_cases h : sp < 0 ∨ dp < 0 ∨ n < 0 ∨ n0 < sp.toNatClampNeg + n.toNatClampNeg ∨ n1 < dp.toNatClampNeg + n.toNatClampNeg
  · rw [if_pos h] at hf
    cases hf
  · rw [if_neg h] at hf
    refine ⟨⟨fun q => h (Or.inl q), fun q => h (Or.inr (Or.inl q)), fun q => h (Or.inr (Or.inr (Or.inl q))), ?_, ?_⟩, hf⟩
    · exact Nat.not_lt.mp fun q => h (Or.inr (Or.inr (Or.inr (Or.inl q))))
    · exact Nat.not_lt.mp fun q => h (Or.inr (Or.inr (Or.inr (Or.inr q))))
theorem itep {α : Type} {c : Prop} {ins : Decidable c} {A B : Option α} {o : α} (h : c) (hf : (if c then A else B) = some o) : A = some o := by rw [if_pos h] at hf; exact hf
theorem iten {α : Type} {c : Prop} {ins : Decidable c} {A B : Option α} {o : α} (h : ¬ c) (hf : (if c then A else B) = some o) : B = some o := by rw [if_neg h] at hf; exact hf
end
section
/-! the kit's rows, over the ONE picture -/
def XU (dC : Nat → ClassId) (dI : Nat → Nat → Nat) (cy : Nat → ClassId) (a : Nat → Nat) (p : Program) (s : State) (m : MethodId) (c : Code) (args : Array Value) (meth : Method) (cc : ByteArray) (nL : Nat) (own : String) (ret : Option FieldType) : Prop :=
  CallFix p m c cc nL s args wsL_law own ∧ va_K (dC, dI) vwCl (tysU cy) s ∧ injU a ∧ meth.sig.returnType = ret ∧ meth.locks = false
def GU (dC : Nat → ClassId) (dI : Nat → Nat → Nat) (cy : Nat → ClassId) (a : Nat → Nat) (H0 : Heap) (M : Mem) (H : Heap) (locs : List Loc) : Prop :=
  va_P (dC, dI) vwCl (wsM a cy M) H ∧ va_S (AU a) H0 H locs
def BU (dC : Nat → ClassId) (dI : Nat → Nat → Nat) (cy : Nat → ClassId) (a : Nat → Nat) (u : Mem) (t : State) : Prop := va_P (dC, dI) vwCl (wsM a cy u) t.heap
abbrev QUi (dC : Nat → ClassId) (dI : Nat → Nat → Nat) (cy : Nat → ClassId) (a : Nat → Nat) (r : Int32) (M : Mem) : Array Value → State → Outcome → State → Prop := va_Qi (fun r' u => r' = r ∧ u = M) (BU dC dI cy a) (AU a)
abbrev QUl (dC : Nat → ClassId) (dI : Nat → Nat → Nat) (cy : Nat → ClassId) (a : Nat → Nat) (r : Int64) (M : Mem) : Array Value → State → Outcome → State → Prop := va_Ql (fun r' u => r' = r ∧ u = M) (BU dC dI cy a) (AU a)
abbrev QUv (dC : Nat → ClassId) (dI : Nat → Nat → Nat) (cy : Nat → ClassId) (a : Nat → Nat) (M : Mem) : Array Value → State → Outcome → State → Prop := va_Qv (fun u => u = M) (BU dC dI cy a) (AU a)
abbrev PU (dC : Nat → ClassId) (dI : Nat → Nat → Nat) (cy : Nat → ClassId) (a : Nat → Nat) (vs : List Value) (M : Mem) : Array Value → State → Prop := va_Pc vs (fun U => va_P (dC, dI) vwCl (wsM a cy M) U.heap ∧ va_K (dC, dI) vwCl (tysU cy) U)
theorem PU_blind {dC : Nat → ClassId} {dI : Nat → Nat → Nat} {cy : Nat → ClassId} {a : Nat → Nat} {vs : List Value} {M : Mem} : FrameBlind (PU dC dI cy a vs M) := fun v U g mk q => ⟨q.1, q.2.1, va_K.moved (u := U) (U := U.calling g mk v) (Vm.Alike.refl U.vm) q.2.2⟩
theorem gself : GoodIn wsL_law wsL_law := goodIn_sub (fun _ h => h) (by decide +kernel)
abbrev wsU (y : MethodName) (cc : ByteArray) (nL : Nat) (ret : Option FieldType) : List Cond := Cond.code y cc nL ret :: wsL_law
theorem gU {y : MethodName} {cc : ByteArray} {nL : Nat} {ret : Option FieldType} (h : Cond.code y cc nL ret ∈ wsL_law) : GoodIn wsL_law (wsU y cc nL ret) := fun w hw => (List.mem_cons.mp hw).elim (fun e => by rw [e]; exact gself _ h) (gself w)
theorem gV {y : MethodName} {cc : ByteArray} {nL : Nat} {ret : Option FieldType} {own C : String} {idx : Nat} (h1 : Cond.methodLink own idx y ∈ wsL_law) (h2 : Cond.instanceMethod y ∈ wsL_law) (h3 : Cond.selects C y y ∈ wsL_law) (h4 : Cond.initialized C ∈ wsL_law) (h5 : Cond.code y cc nL ret ∈ wsL_law) : GoodIn wsL_law (wsV own idx C y (wsU y cc nL ret)) := by
  refine goodIn_app (fun w hw => ?_) (gU h5)
  rcases List.mem_cons.mp hw with e | hw
  · rw [e]; exact gself _ h1
  rcases List.mem_cons.mp hw with e | hw
  · rw [e]; exact gself _ h2
  rcases List.mem_cons.mp hw with e | hw
  · rw [e]; exact gself _ h3
  rcases List.mem_cons.mp hw with e | hw
  · rw [e]; exact gself _ h4
  · cases hw
theorem gS {y : MethodName} {cc : ByteArray} {nL : Nat} {ret : Option FieldType} {own : String} {idx : Nat} (h1 : Cond.methodLink own idx y ∈ wsL_law) (h2 : Cond.static y ∈ wsL_law) (h4 : Cond.initialized own ∈ wsL_law) (h5 : Cond.code y cc nL ret ∈ wsL_law) : GoodIn wsL_law (wsS own idx y (wsU y cc nL ret)) := by
  refine goodIn_app (fun w hw => ?_) (gU h5)
  rcases List.mem_cons.mp hw with e | hw
  · rw [e]; exact gself _ h1
  rcases List.mem_cons.mp hw with e | hw
  · rw [e]; exact gself _ h2
  rcases List.mem_cons.mp hw with e | hw
  · rw [e]; exact gself _ h4
  · cases hw
section MW
variable {p : Program} {l : Launch} {e : Env} {R : Room} {s : State} {m : MethodId} {args : Array Value} {below : List Frame} {meth : Method} {c : Code} {H : Heap} {locs : List Loc} {cells slots : Nat} {Q : State → Prop} {dC : Nat → ClassId} {dI : Nat → Nat → Nat} {cy : Nat → ClassId} {a : Nat → Nat} {cc : ByteArray} {nL : Nat} {own : String} {ret : Option FieldType} {H0 : Heap} {M : Mem} {pc : Nat} {ls : Array Slot} {rest : List Value}
theorem fl_at {M : Mem} {a : Nat → Nat} {i k : Nat} {fl : List (Nat ⊕ Bool)} {o : Nat ⊕ Bool} (hk : fl[k]? = some o) : (fl.mapIdx (fun k o => fval a M i k o))[k]? = some (fval a M i k o) := by
  rw [List.getElem?_mapIdx, hk]; rfl
theorem obj_lt {i ci : Nat} {fl : List (Nat ⊕ Bool)} (hs : shp i = objS ci fl) : i < 162 := shp_lt (by rw [hs]; intro h; cases h)
theorem iarr_lt {i n : Nat} (hs : shp i = iarr n) : i < 162 := shp_lt (by rw [hs]; intro h; cases h)
theorem rarr_lt {i n : Nat} {b : Bool} {f : Nat → Nat} (hs : shp i = rarr b n f) : i < 162 := shp_lt (by rw [hs]; intro h; cases h)
theorem zarr_lt {i n : Nat} (hs : shp i = zarr n) (hn : n ≠ 0) : i < 162 := shp_lt (by rw [hs]; intro h; exact hn (congrArg Prod.snd (Sum.inl.inj h)))
theorem at_obj {i ci : Nat} {fl : List (Nat ⊕ Bool)} (hs : shp i = objS ci fl) : (wsM a cy M)[i]? = some (a i, .inr (ci, fl.mapIdx (fun k o => fval a M i k o))) := by
  rw [wsM_at (obj_lt hs), cont_of hs]; rfl
theorem at_iarr {i n : Nat} (hs : shp i = iarr n) : (wsM a cy M)[i]? = some (a i, .inl (cy 0, n, .inl (M.1 i))) := by
  rw [wsM_at (iarr_lt hs), cont_of hs]; rfl
theorem at_zarr {i n : Nat} (hs : shp i = zarr n) (hn : n ≠ 0) : (wsM a cy M)[i]? = some (a i, .inl (cy 1, n, .inl (M.1 i))) := by
  rw [wsM_at (zarr_lt hs hn), cont_of hs]; rfl
theorem at_rarr0 {i n : Nat} {f : Nat → Nat} (hs : shp i = rarr false n f) : (wsM a cy M)[i]? = some (a i, .inl (cy 2, n, .inr (.inr (.inr (.inr (fun j => some (a (f j)))))))) := by
  rw [wsM_at (rarr_lt hs), cont_of hs]; rfl
theorem at_rarr1 {i n : Nat} {f : Nat → Nat} (hs : shp i = rarr true n f) : (wsM a cy M)[i]? = some (a i, .inl (cy 3, n, .inr (.inr (.inr (.inr (fun j => some (a (f j)))))))) := by
  rw [wsM_at (rarr_lt hs), cont_of hs]; rfl
theorem mw_get (X : XU dC dI cy a p s m c args meth cc nL own ret) (hG : GU dC dI cy a H0 M H locs) {i ci k N index : Nat} {fl : List (Nat ⊕ Bool)} {C : String} {T : u_T} {o : Nat ⊕ Bool} (hs : shp i = objS ci fl) (hk : fl[k]? = some o) (hc : vwCl[ci]? = some (C, T, N)) (hin : ∀ w ∈ u_ws C T N, w ∈ wsL_law) (hkN : k < N) (hl : Cond.fieldLink own index (T k).1 (T k).2.1 (T k).2.2.1 ∈ wsL_law) (hdg : decode cc pc = .ok (.getfield index, 3))
    (kk : W p l e R s m args below meth c H locs cells slots Q (F0 m (pc + 3) ls (fval a M i k o :: rest))) : W p l e R s m args below meth c H locs cells slots Q (F0 m pc ls (.ref (a i) :: rest)) :=
  va_get (D := (dC, dI)) X.1.1 X.1.2.1 X.1.2.2.2.2 hin X.1.2.2.2.1 X.2.1 hG.1 i (at_obj hs) hc k hkN (X.1.2.2.2.2 _ hl) (fun _ h9 => h9) (fl_at hk) hdg kk
theorem mw_put (X : XU dC dI cy a p s m c args meth cc nL own ret) (hG : GU dC dI cy a H0 M H locs) {i ci k N index : Nat} {fl : List (Nat ⊕ Bool)} {C : String} {T : u_T} {v : Int32} {ty : Nat → FieldType} (hty : ∀ k, k < N → parseFieldDescriptor (T k).2.2.1 = some (ty k)) (hnm : ∀ a, a < N → ∀ b, b < N → a ≠ b → (T a).2.1 ≠ (T b).2.1) (hs : shp i = objS ci fl) (hk : fl[k]? = some (.inr false)) (hc : vwCl[ci]? = some (C, T, N)) (hin : ∀ w ∈ u_ws C T N, w ∈ wsL_law) (hkN : k < N) (hl : Cond.fieldLink own index (T k).1 (T k).2.1 (T k).2.2.1 ∈ wsL_law) (hfin : (T k).2.2.2 = false) (hd : parseFieldDescriptor (T k).2.2.1 = some .int) (hdg : decode cc pc = .ok (.putfield index, 3))
    (kk : ∀ (M1 : Mem) (H1 : Heap) (locs1 : List Loc), M1 = wr M i k v → GU dC dI cy a H0 M1 H1 locs1 → W p l e R s m args below meth c H1 locs1 cells slots Q (F0 m (pc + 3) ls rest)) : W p l e R s m args below meth c H locs cells slots Q (F0 m pc ls (.int v :: .ref (a i) :: rest)) := by
  refine va_put (D := (dC, dI)) (ty := .int) X.1.1 X.1.2.1 X.1.2.2.2.2 hin ty hty hnm X.1.2.2.2.1 X.2.1 hG.1 (wsM_D X.2.2.1 M) hG.2 i (at_obj hs) hc k hkN (X.1.2.2.2.2 _ hl) (fun _ h9 => h9) hfin hd rfl rfl (by simpa using (List.getElem?_eq_some_iff.mp hk).1) hdg (fun H1 locs1 hP _ hS => ?_)
  rw [wsM_wrO hs hk] at hP
  exact kk _ H1 locs1 rfl ⟨hP, hS⟩
theorem mw_putJ (X : XU dC dI cy a p s m c args meth cc nL own ret) (hG : GU dC dI cy a H0 M H locs) {i ci k N index : Nat} {fl : List (Nat ⊕ Bool)} {C : String} {T : u_T} {v : Int64} {ty : Nat → FieldType} (hty : ∀ k, k < N → parseFieldDescriptor (T k).2.2.1 = some (ty k)) (hnm : ∀ a, a < N → ∀ b, b < N → a ≠ b → (T a).2.1 ≠ (T b).2.1) (h157 : i = 157) (hs : shp i = objS ci fl) (hk : fl[k]? = some (.inr true)) (hj : ∀ q, fl[q]? = some (.inr true) → q = k) (hc : vwCl[ci]? = some (C, T, N)) (hin : ∀ w ∈ u_ws C T N, w ∈ wsL_law) (hkN : k < N) (hl : Cond.fieldLink own index (T k).1 (T k).2.1 (T k).2.2.1 ∈ wsL_law) (hfin : (T k).2.2.2 = false) (hd : parseFieldDescriptor (T k).2.2.1 = some .long) (hdg : decode cc pc = .ok (.putfield index, 3))
    (kk : ∀ (M1 : Mem) (H1 : Heap) (locs1 : List Loc), M1 = wrJ M v → GU dC dI cy a H0 M1 H1 locs1 → W p l e R s m args below meth c H1 locs1 cells slots Q (F0 m (pc + 3) ls rest)) : W p l e R s m args below meth c H locs cells slots Q (F0 m pc ls (.long v :: .ref (a i) :: rest)) := by
  refine va_put (D := (dC, dI)) (ty := .long) X.1.1 X.1.2.1 X.1.2.2.2.2 hin ty hty hnm X.1.2.2.2.1 X.2.1 hG.1 (wsM_D X.2.2.1 M) hG.2 i (at_obj hs) hc k hkN (X.1.2.2.2.2 _ hl) (fun _ h9 => h9) hfin hd rfl rfl (by simpa using (List.getElem?_eq_some_iff.mp hk).1) hdg (fun H1 locs1 hP _ hS => ?_)
  rw [wsM_wrJ h157 hs hk hj] at hP
  exact kk _ H1 locs1 rfl ⟨hP, hS⟩
theorem mw_iald (X : XU dC dI cy a p s m c args meth cc nL own ret) (hG : GU dC dI cy a H0 M H locs) {i n : Nat} {x : Int32} (hs : shp i = iarr n) (hin : vp_in x n) (hdg : decode cc pc = .ok (.iaload, 1))
    (kk : W p l e R s m args below meth c H locs cells slots Q (F0 m (pc + 1) ls (.int (rd M i x.toNatClampNeg) :: rest))) : W p l e R s m args below meth c H locs cells slots Q (F0 m pc ls (.int x :: .ref (a i) :: rest)) :=
  va_iald (D := (dC, dI)) X.1.1 X.1.2.1 X.2.1 hG.1 i 0 (at_iarr hs) rfl hin hdg kk
theorem mw_zald (X : XU dC dI cy a p s m c args meth cc nL own ret) (hG : GU dC dI cy a H0 M H locs) {i n : Nat} {x : Int32} (hs : shp i = zarr n) (hn : n ≠ 0) (hin : vp_in x n) (hdg : decode cc pc = .ok (.baload, 1))
    (kk : W p l e R s m args below meth c H locs cells slots Q (F0 m (pc + 1) ls (.int (rd M i x.toNatClampNeg) :: rest))) : W p l e R s m args below meth c H locs cells slots Q (F0 m pc ls (.int x :: .ref (a i) :: rest)) :=
  va_zald (D := (dC, dI)) X.1.1 X.1.2.1 X.2.1 hG.1 i 1 (at_zarr hs hn) rfl hin hdg kk
theorem mw_iast (X : XU dC dI cy a p s m c args meth cc nL own ret) (hG : GU dC dI cy a H0 M H locs) {i n : Nat} {x v : Int32} (hs : shp i = iarr n) (hin : vp_in x n) (hdg : decode cc pc = .ok (.iastore, 1))
    (kk : ∀ (M1 : Mem) (H1 : Heap) (locs1 : List Loc), M1 = wr M i x.toNatClampNeg v → GU dC dI cy a H0 M1 H1 locs1 → W p l e R s m args below meth c H1 locs1 cells slots Q (F0 m (pc + 1) ls rest)) : W p l e R s m args below meth c H locs cells slots Q (F0 m pc ls (.int v :: .int x :: .ref (a i) :: rest)) := by
  refine va_iast (D := (dC, dI)) X.1.1 X.1.2.1 X.2.1 hG.1 (wsM_D X.2.2.1 M) hG.2 i 0 (at_iarr hs) rfl hin hdg (fun H1 locs1 hP _ hS => ?_)
  rw [wsM_wrA hs] at hP
  exact kk _ H1 locs1 rfl ⟨hP, hS⟩
theorem mw_zast (X : XU dC dI cy a p s m c args meth cc nL own ret) (hG : GU dC dI cy a H0 M H locs) {i n : Nat} {x v : Int32} (hs : shp i = zarr n) (hn : n ≠ 0) (hv : vp_nar .boolean v = v) (hin : vp_in x n) (hdg : decode cc pc = .ok (.bastore, 1))
    (kk : ∀ (M1 : Mem) (H1 : Heap) (locs1 : List Loc), M1 = wr M i x.toNatClampNeg v → GU dC dI cy a H0 M1 H1 locs1 → W p l e R s m args below meth c H1 locs1 cells slots Q (F0 m (pc + 1) ls rest)) : W p l e R s m args below meth c H locs cells slots Q (F0 m pc ls (.int v :: .int x :: .ref (a i) :: rest)) := by
  refine va_zast (D := (dC, dI)) X.1.1 X.1.2.1 X.2.1 hG.1 (wsM_D X.2.2.1 M) hG.2 i 1 (at_zarr hs hn) rfl hin hdg (fun H1 locs1 hP _ hS => ?_)
  rw [hv, wsM_wrZ hs] at hP
  exact kk _ H1 locs1 rfl ⟨hP, hS⟩
theorem mw_aald0 (X : XU dC dI cy a p s m c args meth cc nL own ret) (hG : GU dC dI cy a H0 M H locs) {i n : Nat} {f : Nat → Nat} {x : Int32} (hs : shp i = rarr false n f) (hin : vp_in x n) (hdg : decode cc pc = .ok (.aaload, 1))
    (kk : W p l e R s m args below meth c H locs cells slots Q (F0 m (pc + 1) ls (.ref (a (f x.toNatClampNeg)) :: rest))) : W p l e R s m args below meth c H locs cells slots Q (F0 m pc ls (.int x :: .ref (a i) :: rest)) :=
  va_aldq (D := (dC, dI)) X.1.1 X.1.2.1 X.2.1 hG.1 i 2 (at_rarr0 hs) rfl hin hdg kk
theorem mw_aald1 (X : XU dC dI cy a p s m c args meth cc nL own ret) (hG : GU dC dI cy a H0 M H locs) {i n : Nat} {f : Nat → Nat} {x : Int32} (hs : shp i = rarr true n f) (hin : vp_in x n) (hdg : decode cc pc = .ok (.aaload, 1))
    (kk : W p l e R s m args below meth c H locs cells slots Q (F0 m (pc + 1) ls (.ref (a (f x.toNatClampNeg)) :: rest))) : W p l e R s m args below meth c H locs cells slots Q (F0 m pc ls (.int x :: .ref (a i) :: rest)) :=
  va_aldq (D := (dC, dI)) X.1.1 X.1.2.1 X.2.1 hG.1 i 3 (at_rarr1 hs) rfl hin hdg kk
theorem mw_cp (X : XU dC dI cy a p s m c args meth cc nL own ret) (hG : GU dC dI cy a H0 M H locs) (hsz : ls.size = nL) {i0 i1 n0 n1 index : Nat} {sp dp n : Int32} (hs0 : shp i0 = iarr n0) (hs1 : shp i1 = iarr n1) (hg : ¬ sp < 0 ∧ ¬ dp < 0 ∧ ¬ n < 0 ∧ sp.toNatClampNeg + n.toNatClampNeg ≤ n0 ∧ dp.toNatClampNeg + n.toNatClampNeg ≤ n1) (hl : Cond.methodLink own index arraycopyName ∈ wsL_law) (hR : 1 ≤ R.frames ∧ (rest.map fun v => v.category).sum + (nativeFrameWords "java/lang/System" "arraycopy" 5 + 11) ≤ R.locals) (h2 : Cond.native arraycopyName ∈ wsL_law) (h3 : Cond.static arraycopyName ∈ wsL_law) (h4 : Cond.initialized "java/lang/System" ∈ wsL_law) (hdg : decode cc pc = .ok (.invokestatic index, 3))
    (kk : ∀ (M1 : Mem) (H1 : Heap) (locs1 : List Loc), M1 = cpM M i0 i1 sp.toNatClampNeg dp.toNatClampNeg n.toNatClampNeg → GU dC dI cy a H0 M1 H1 locs1 → W p l e R s m args below meth c H1 locs1 cells slots Q (F0 m (pc + 3) ls rest)) : W p l e R s m args below meth c H locs cells slots Q (F0 m pc ls (.int n :: .int dp :: .ref (a i1) :: .int sp :: .ref (a i0) :: rest)) := by
  refine va_copyi (D := (dC, dI)) (ty := .int) X.1.1 X.1.2.1 (X.1.2.2.1.trans hsz.symm) X.1.2.2.2.1 (X.1.2.2.2.2 _ hl) (X.1.2.2.2.2 _ h2) (X.1.2.2.2.2 _ h3) (X.1.2.2.2.2 _ h4) X.2.1 hG.1 (wsM_D X.2.2.1 M) hG.2 i0 i1 0 0 (at_iarr hs0) (at_iarr hs1) rfl rfl rfl hg.1 hg.2.1 hg.2.2.1 hg.2.2.2.1 hg.2.2.2.2 (fun _ _ => rfl) hR.1 hR.2 hdg (fun H1 locs1 hP _ hS => ?_)
  rw [wsM_cp hs1] at hP
  exact kk _ H1 locs1 rfl ⟨hP, hS⟩
theorem mw_recv (X : XU dC dI cy a p s m c args meth cc nL own ret) (hG : GU dC dI cy a H0 M H locs) {i ci N : Nat} {fl : List (Nat ⊕ Bool)} {C : String} {T : u_T} (hs : shp i = objS ci fl) (hc : vwCl[ci]? = some (C, T, N)) : ∃ cell : Cell, H[a i]? = some cell ∧ cell.vm.isStatics = false ∧ s.vm.findClass C = some cell.cls := va_recv X.2.1 hG.1 hc (at_obj hs)
theorem mw_pre (X : XU dC dI cy a p s m c args meth cc nL own ret) (hG : GU dC dI cy a H0 M H locs) {vs : List Value} : ∀ U : State, U.heap = H → s.WarmedH U.vm → PU dC dI cy a vs M vs.toArray U := fun U hU hW => ⟨rfl, by rw [hU]; exact hG.1, va_K.moved hW.alike X.2.1⟩
theorem mw_callVi (X : XU dC dI cy a p s m c args meth cc nL own ret) (hG : GU dC dI cy a H0 M H locs) {y : MethodName} {bytes : ByteArray} {maxL n index i ci N : Nat} {ret1 : Option FieldType} {fl : List (Nat ⊕ Bool)} {C : String} {T : u_T} {rm : Room} {As st0 : List Value} {r : Int32} {M1 : Mem} (hs : shp i = objS ci fl) (hc : vwCl[ci]? = some (C, T, N)) (hM : Met l y (wsU y bytes maxL ret1) rm (PU dC dI cy a (.ref (a i) :: As) M) (QUi dC dI cy a r M1) 0 0 (AU a)) (cw : CallW R s args own C index y bytes maxL ret1 (wsU y bytes maxL ret1) rm 0 0 n) (hn : As.length = n) (hsz : ls.size = nL) (hst : st0 = As.reverse ++ .ref (a i) :: rest) (hW : (rest.map fun v => v.category).sum ≤ 8) (hdg : decode cc pc = .ok (.invokevirtual index, 3))
    (kk : ∀ (H1 : Heap) (locs1 : List Loc), GU dC dI cy a H0 M1 H1 locs1 → W p l e R s m args below meth c H1 locs1 0 0 Q (F0 m (pc + 3) ls (.int r :: rest))) : W p l e R s m args below meth c H locs 0 0 Q (F0 m pc ls st0) := by
  refine va_calli (va_runV (As := As) (rest := rest) (g := F0 m pc ls st0) X.1 hM cw ⟨PU_blind, mw_recv X hG hs hc, mw_pre X hG⟩ rfl hn hsz hst (lv_room hW) hdg ⟨Nat.zero_le _, Nat.zero_le _⟩) hG.2 (fun q _ h => h) (fun q h => h) (fun r1 u t H1 locs1 ht hvm hw hB hz1 hk1 hS => ?_)
  obtain ⟨rfl, rfl⟩ := hw
  exact kk H1 locs1 ⟨by rw [← ht]; exact hB, hS⟩
theorem mw_callVv (X : XU dC dI cy a p s m c args meth cc nL own ret) (hG : GU dC dI cy a H0 M H locs) {y : MethodName} {bytes : ByteArray} {maxL n index i ci N : Nat} {ret1 : Option FieldType} {fl : List (Nat ⊕ Bool)} {C : String} {T : u_T} {rm : Room} {As st0 : List Value} {M1 : Mem} (hs : shp i = objS ci fl) (hc : vwCl[ci]? = some (C, T, N)) (hM : Met l y (wsU y bytes maxL ret1) rm (PU dC dI cy a (.ref (a i) :: As) M) (QUv dC dI cy a M1) 0 0 (AU a)) (cw : CallW R s args own C index y bytes maxL ret1 (wsU y bytes maxL ret1) rm 0 0 n) (hn : As.length = n) (hsz : ls.size = nL) (hst : st0 = As.reverse ++ .ref (a i) :: rest) (hW : (rest.map fun v => v.category).sum ≤ 8) (hdg : decode cc pc = .ok (.invokevirtual index, 3))
    (kk : ∀ (H1 : Heap) (locs1 : List Loc), GU dC dI cy a H0 M1 H1 locs1 → W p l e R s m args below meth c H1 locs1 0 0 Q (F0 m (pc + 3) ls rest)) : W p l e R s m args below meth c H locs 0 0 Q (F0 m pc ls st0) := by
  refine va_callv (va_runV (As := As) (rest := rest) (g := F0 m pc ls st0) X.1 hM cw ⟨PU_blind, mw_recv X hG hs hc, mw_pre X hG⟩ rfl hn hsz hst (lv_room hW) hdg ⟨Nat.zero_le _, Nat.zero_le _⟩) hG.2 (fun q _ h => h) (fun q h => h) (fun u t H1 locs1 ht hvm hw hB hz1 hk1 hS => ?_)
  subst hw
  exact kk H1 locs1 ⟨by rw [← ht]; exact hB, hS⟩
theorem mw_callSi (X : XU dC dI cy a p s m c args meth cc nL own ret) (hG : GU dC dI cy a H0 M H locs) {y : MethodName} {bytes : ByteArray} {maxL n index : Nat} {ret1 : Option FieldType} {rm : Room} {As st0 : List Value} {r : Int32} {M1 : Mem} (hM : Met l y (wsU y bytes maxL ret1) rm (PU dC dI cy a As M) (QUi dC dI cy a r M1) 0 0 (AU a)) (cw : CallB R s args own index y bytes maxL ret1 (wsU y bytes maxL ret1) rm 0 0 n ∧ (Cond.static y).before args s = true) (hn : As.length = n) (hsz : ls.size = nL) (hst : st0 = As.reverse ++ rest) (hW : (rest.map fun v => v.category).sum ≤ 8) (hdg : decode cc pc = .ok (.invokestatic index, 3))
    (kk : ∀ (H1 : Heap) (locs1 : List Loc), GU dC dI cy a H0 M1 H1 locs1 → W p l e R s m args below meth c H1 locs1 0 0 Q (F0 m (pc + 3) ls (.int r :: rest))) : W p l e R s m args below meth c H locs 0 0 Q (F0 m pc ls st0) := by
  refine va_calli (va_runS (As := As) (rest := rest) (g := F0 m pc ls st0) X.1 hM cw ⟨PU_blind, mw_pre X hG⟩ rfl hn hsz hst (lv_room hW) hdg ⟨Nat.zero_le _, Nat.zero_le _⟩) hG.2 (fun q _ h => h) (fun q h => h) (fun r1 u t H1 locs1 ht hvm hw hB hz1 hk1 hS => ?_)
  obtain ⟨rfl, rfl⟩ := hw
  exact kk H1 locs1 ⟨by rw [← ht]; exact hB, hS⟩
theorem mw_callSl (X : XU dC dI cy a p s m c args meth cc nL own ret) (hG : GU dC dI cy a H0 M H locs) {y : MethodName} {bytes : ByteArray} {maxL n index : Nat} {ret1 : Option FieldType} {rm : Room} {As st0 : List Value} {r : Int64} {M1 : Mem} (hM : Met l y (wsU y bytes maxL ret1) rm (PU dC dI cy a As M) (QUl dC dI cy a r M1) 0 0 (AU a)) (cw : CallB R s args own index y bytes maxL ret1 (wsU y bytes maxL ret1) rm 0 0 n ∧ (Cond.static y).before args s = true) (hn : As.length = n) (hsz : ls.size = nL) (hst : st0 = As.reverse ++ rest) (hW : (rest.map fun v => v.category).sum ≤ 8) (hdg : decode cc pc = .ok (.invokestatic index, 3))
    (kk : ∀ (H1 : Heap) (locs1 : List Loc), GU dC dI cy a H0 M1 H1 locs1 → W p l e R s m args below meth c H1 locs1 0 0 Q (F0 m (pc + 3) ls (.long r :: rest))) : W p l e R s m args below meth c H locs 0 0 Q (F0 m pc ls st0) := by
  refine va_calll (va_runS (As := As) (rest := rest) (g := F0 m pc ls st0) X.1 hM cw ⟨PU_blind, mw_pre X hG⟩ rfl hn hsz hst (lv_room hW) hdg ⟨Nat.zero_le _, Nat.zero_le _⟩) hG.2 (fun q _ h => h) (fun q h => h) (fun r1 u t H1 locs1 ht hvm hw hB hz1 hk1 hS => ?_)
  obtain ⟨rfl, rfl⟩ := hw
  exact kk H1 locs1 ⟨by rw [← ht]; exact hB, hS⟩
theorem mw_cwV (X : XU dC dI cy a p s m c args meth cc nL own ret) {y : MethodName} {bytes : ByteArray} {maxL index : Nat} {ret1 : Option FieldType} {C : String} {rm : Room} (n : Nat) (hg : GoodIn wsL_law (wsV own index C y (wsU y bytes maxL ret1))) (hd : y.cls = C ∧ y.cls ≠ "java/lang/invoke/MethodHandle" ∧ y.cls ≠ "java/lang/invoke/VarHandle" ∧ (parseMethodDescriptor y.desc).map (fun d => d.parameters.length) = some n) (h0 : rm.cells = 0 ∧ rm.slots = 0) (hR : rm.frames + 1 ≤ R.frames ∧ 8 + (maxL + 11) + rm.locals ≤ R.locals) : CallW R s args own C index y bytes maxL ret1 (wsU y bytes maxL ret1) rm 0 0 n := cwV n X.1.2.2.2.2 hg rfl h0.1 h0.2 hd hR
theorem mw_cwS (X : XU dC dI cy a p s m c args meth cc nL own ret) {y : MethodName} {bytes : ByteArray} {maxL index : Nat} {ret1 : Option FieldType} {rm : Room} (n : Nat) (hg : GoodIn wsL_law (wsS own index y (wsU y bytes maxL ret1))) (hd : y.cls = own ∧ y.cls ≠ "java/lang/invoke/MethodHandle" ∧ y.cls ≠ "java/lang/invoke/VarHandle" ∧ (parseMethodDescriptor y.desc).map (fun d => d.parameters.length) = some n) (h0 : rm.cells = 0 ∧ rm.slots = 0) (hR : rm.frames + 1 ≤ R.frames ∧ 8 + (maxL + 11) + rm.locals ≤ R.locals) : CallB R s args own index y bytes maxL ret1 (wsU y bytes maxL ret1) rm 0 0 n ∧ (Cond.static y).before args s = true := cwS n X.1.2.2.2.2 hg rfl h0.1 h0.2 hd hR
theorem mw_iret (X : XU dC dI cy a p s m c args meth cc nL own (some .int)) (hG : GU dC dI cy a s.heap M H locs) {v : Int32} (hdg : decode cc pc = .ok (.ireturn, 1)) : W p l e R s m args below meth c H locs 0 0 (MQ below (QUi dC dI cy a v M) args s 0 0 (AU a)) (F0 m pc ls [.int v]) :=
  W.iret X.1.1 X.1.2.1 X.2.2.2.1 (fun t ht hW => ⟨⟨v, M, rfl, ⟨rfl, rfl⟩, by show va_P _ _ _ _; rw [ht]; exact hG.1⟩, hG.2.F ht⟩) hG.2.2.2 hdg X.2.2.2.2
theorem mw_zret (X : XU dC dI cy a p s m c args meth cc nL own (some .boolean)) (hG : GU dC dI cy a s.heap M H locs) {v : Int32} (hn : narrow .boolean (.int v) = .int v) (hdg : decode cc pc = .ok (.ireturn, 1)) : W p l e R s m args below meth c H locs 0 0 (MQ below (QUi dC dI cy a v M) args s 0 0 (AU a)) (F0 m pc ls [.int v]) :=
  W.zret X.1.1 X.1.2.1 X.2.2.2.1 hn (fun t ht hW => ⟨⟨v, M, rfl, ⟨rfl, rfl⟩, by show va_P _ _ _ _; rw [ht]; exact hG.1⟩, hG.2.F ht⟩) hG.2.2.2 hdg X.2.2.2.2
theorem mw_lret (X : XU dC dI cy a p s m c args meth cc nL own (some .long)) (hG : GU dC dI cy a s.heap M H locs) {v : Int64} (hdg : decode cc pc = .ok (.lreturn, 1)) : W p l e R s m args below meth c H locs 0 0 (MQ below (QUl dC dI cy a v M) args s 0 0 (AU a)) (F0 m pc ls [.long v]) :=
  W.lret X.1.1 X.1.2.1 X.2.2.2.1 (fun t ht hW => ⟨⟨v, M, rfl, ⟨rfl, rfl⟩, by show va_P _ _ _ _; rw [ht]; exact hG.1⟩, hG.2.F ht⟩) hG.2.2.2 hdg X.2.2.2.2
theorem mw_vret (X : XU dC dI cy a p s m c args meth cc nL own none) (hG : GU dC dI cy a s.heap M H locs) (hdg : decode cc pc = .ok (.return_, 1)) : W p l e R s m args below meth c H locs 0 0 (MQ below (QUv dC dI cy a M) args s 0 0 (AU a)) (F0 m pc ls []) :=
  W.vret X.1.1 X.1.2.1 X.2.2.2.1 (fun t ht hW => ⟨⟨M, rfl, rfl, by show va_P _ _ _ _; rw [ht]; exact hG.1⟩, hG.2.F ht⟩) hG.2.2.2 hdg X.2.2.2.2
end MW
theorem mw_met {l : Launch} {dC : Nat → ClassId} {dI : Nat → Nat → Nat} {cy : Nat → ClassId} {a : Nat → Nat} {y : MethodName} {cc : ByteArray} {nL : Nat} {ret : Option FieldType} {rm : Room} {vs : List Value} {M : Mem} {Qc : Array Value → State → Outcome → State → Prop} (hy : plainName y.cls = true) (ha : injU a) (hle : (lg_sl vs).length ≤ nL)
    (body : ∀ (p : Program) (e : Env) (s : State) (m : MethodId) (below : List Frame) (meth : Method) (c : Code) (ls : Array Slot), XU dC dI cy a p s m c vs.toArray meth cc nL y.cls ret → GU dC dI cy a s.heap M s.heap [] → lv_has ls nL (lv_args 0 vs) → W p l e rm s m vs.toArray below meth c s.heap [] 0 0 (MQ below Qc vs.toArray s 0 0 (AU a)) (F0 m 0 ls [])) : Met l y (wsU y cc nL ret) rm (PU dC dI cy a vs M) Qc 0 0 (AU a) := by
  refine Met.ofW (cc := cc) (maxL := nL) (ret := ret) hy rfl ?_
  intro p e s m args below meth c s₁ B hml hv
  obtain ⟨rfl, hP, hK⟩ := hv
  have hts := atoms_spec (ws := wsU y cc nL ret) B.pre
  rw [lg_entry_eq]
  exact body p e s m below meth c _ ⟨⟨B.exec, B.bytes, hml, findClass_of_methodNamed B.named, fun w hw => hts w (List.mem_cons_of_mem _ hw)⟩, hK, ha, B.returns, B.notSynchronized⟩ ⟨hP, va_S.rf⟩ (lv_entry vs hle)
end
