section
-- ===== PART A: goes FIRST, ahead of the names: the tables' words, and 'selects' of the private methods out of them =====
/-- a private method of a class that the tables say can be made, by its rows of tables_1 -/
def lw_okq (q : MethodName × Nat) : Prop := (q.1.cls ≠ "java/lang/invoke/MethodHandle" ∧ q.1.cls ≠ "java/lang/invoke/VarHandle") ∧ Cond.instantiable q.1.cls q.2 ∈ tables_1 ∧ Cond.privateMethod q.1 ∈ tables_1 ∧ Cond.instanceMethod q.1 ∈ tables_1
theorem lw_p0 : lw_okq (⟨"SafeParts", "areNotTwoParts", "(II)Z"⟩, 6) := ⟨⟨by decide +kernel, by decide +kernel⟩, List.mem_of_getElem? (i := 10) (by decide +kernel), List.mem_of_getElem? (i := 211) (by decide +kernel), List.mem_of_getElem? (i := 212) (by decide +kernel)⟩
theorem lw_p1 : lw_okq (⟨"SafeParts", "isNoPart", "(I)Z"⟩, 6) := ⟨⟨by decide +kernel, by decide +kernel⟩, List.mem_of_getElem? (i := 10) (by decide +kernel), List.mem_of_getElem? (i := 215) (by decide +kernel), List.mem_of_getElem? (i := 216) (by decide +kernel)⟩
theorem lw_p2 : lw_okq (⟨"SafeParts", "refusalOfEvent", "(III)I"⟩, 6) := ⟨⟨by decide +kernel, by decide +kernel⟩, List.mem_of_getElem? (i := 10) (by decide +kernel), List.mem_of_getElem? (i := 238) (by decide +kernel), List.mem_of_getElem? (i := 239) (by decide +kernel)⟩
theorem lw_p3 : lw_okq (⟨"SafeParts$Waiting", "isBehind", "(III)Z"⟩, 4) := ⟨⟨by decide +kernel, by decide +kernel⟩, List.mem_of_getElem? (i := 73) (by decide +kernel), List.mem_of_getElem? (i := 258) (by decide +kernel), List.mem_of_getElem? (i := 259) (by decide +kernel)⟩
theorem lw_p4 : lw_okq (⟨"SafeParts", "nothingIsRun", "()Z"⟩, 6) := ⟨⟨by decide +kernel, by decide +kernel⟩, List.mem_of_getElem? (i := 10) (by decide +kernel), List.mem_of_getElem? (i := 282) (by decide +kernel), List.mem_of_getElem? (i := 283) (by decide +kernel)⟩
theorem lw_p5 : lw_okq (⟨"SafeParts$Channels", "reachedWithoutPromise", "(II)I"⟩, 8) := ⟨⟨by decide +kernel, by decide +kernel⟩, List.mem_of_getElem? (i := 24) (by decide +kernel), List.mem_of_getElem? (i := 290) (by decide +kernel), List.mem_of_getElem? (i := 291) (by decide +kernel)⟩
theorem lw_p6 : lw_okq (⟨"SafeParts", "isStillAfterRound", "()Z"⟩, 6) := ⟨⟨by decide +kernel, by decide +kernel⟩, List.mem_of_getElem? (i := 10) (by decide +kernel), List.mem_of_getElem? (i := 298) (by decide +kernel), List.mem_of_getElem? (i := 299) (by decide +kernel)⟩
theorem lw_p7 : lw_okq (⟨"SafeParts", "workAndWriteDown", "(I)V"⟩, 6) := ⟨⟨by decide +kernel, by decide +kernel⟩, List.mem_of_getElem? (i := 10) (by decide +kernel), List.mem_of_getElem? (i := 320) (by decide +kernel), List.mem_of_getElem? (i := 321) (by decide +kernel)⟩
theorem lw_p8 : lw_okq (⟨"SafeParts$World", "sendLetter", "(III)V"⟩, 12) := ⟨⟨by decide +kernel, by decide +kernel⟩, List.mem_of_getElem? (i := 18) (by decide +kernel), List.mem_of_getElem? (i := 346) (by decide +kernel), List.mem_of_getElem? (i := 347) (by decide +kernel)⟩
theorem lw_p9 : lw_okq (⟨"SafeParts$World", "emptyMayGo", "(I)Z"⟩, 12) := ⟨⟨by decide +kernel, by decide +kernel⟩, List.mem_of_getElem? (i := 18) (by decide +kernel), List.mem_of_getElem? (i := 368) (by decide +kernel), List.mem_of_getElem? (i := 369) (by decide +kernel)⟩
theorem lw_p10 : lw_okq (⟨"SafeParts", "letEarliestGo", "()I"⟩, 6) := ⟨⟨by decide +kernel, by decide +kernel⟩, List.mem_of_getElem? (i := 10) (by decide +kernel), List.mem_of_getElem? (i := 385) (by decide +kernel), List.mem_of_getElem? (i := 386) (by decide +kernel)⟩
theorem lw_p11 : lw_okq (⟨"SafeParts", "leastPromisesRound", "(I)I"⟩, 6) := ⟨⟨by decide +kernel, by decide +kernel⟩, List.mem_of_getElem? (i := 10) (by decide +kernel), List.mem_of_getElem? (i := 437) (by decide +kernel), List.mem_of_getElem? (i := 438) (by decide +kernel)⟩
theorem lw_p12 : lw_okq (⟨"SafePartsModel", "isPart", "(I)Z"⟩, 6) := ⟨⟨by decide +kernel, by decide +kernel⟩, List.mem_of_getElem? (i := 476) (by decide +kernel), List.mem_of_getElem? (i := 514) (by decide +kernel), List.mem_of_getElem? (i := 515) (by decide +kernel)⟩
theorem lw_p13 : lw_okq (⟨"SafePartsModel", "wayOf", "(II)I"⟩, 6) := ⟨⟨by decide +kernel, by decide +kernel⟩, List.mem_of_getElem? (i := 476) (by decide +kernel), List.mem_of_getElem? (i := 520) (by decide +kernel), List.mem_of_getElem? (i := 521) (by decide +kernel)⟩
theorem lw_p14 : lw_okq (⟨"SafePartsModel", "isPromised", "(II)Z"⟩, 6) := ⟨⟨by decide +kernel, by decide +kernel⟩, List.mem_of_getElem? (i := 476) (by decide +kernel), List.mem_of_getElem? (i := 534) (by decide +kernel), List.mem_of_getElem? (i := 535) (by decide +kernel)⟩
theorem lw_p15 : lw_okq (⟨"SafePartsModel", "comes", "(IIIII)V"⟩, 6) := ⟨⟨by decide +kernel, by decide +kernel⟩, List.mem_of_getElem? (i := 476) (by decide +kernel), List.mem_of_getElem? (i := 538) (by decide +kernel), List.mem_of_getElem? (i := 539) (by decide +kernel)⟩
def lw_privs_1 : List (MethodName × Nat) := [(⟨"SafeParts", "areNotTwoParts", "(II)Z"⟩, 6), (⟨"SafeParts", "isNoPart", "(I)Z"⟩, 6), (⟨"SafeParts", "refusalOfEvent", "(III)I"⟩, 6), (⟨"SafeParts$Waiting", "isBehind", "(III)Z"⟩, 4), (⟨"SafeParts", "nothingIsRun", "()Z"⟩, 6), (⟨"SafeParts$Channels", "reachedWithoutPromise", "(II)I"⟩, 8), (⟨"SafeParts", "isStillAfterRound", "()Z"⟩, 6), (⟨"SafeParts", "workAndWriteDown", "(I)V"⟩, 6), (⟨"SafeParts$World", "sendLetter", "(III)V"⟩, 12), (⟨"SafeParts$World", "emptyMayGo", "(I)Z"⟩, 12), (⟨"SafeParts", "letEarliestGo", "()I"⟩, 6), (⟨"SafeParts", "leastPromisesRound", "(I)I"⟩, 6), (⟨"SafePartsModel", "isPart", "(I)Z"⟩, 6), (⟨"SafePartsModel", "wayOf", "(II)I"⟩, 6), (⟨"SafePartsModel", "isPromised", "(II)Z"⟩, 6), (⟨"SafePartsModel", "comes", "(IIIII)V"⟩, 6)]
theorem lw_r1 : ∀ q ∈ lw_privs_1, lw_okq q := List.forall_mem_cons.mpr ⟨lw_p0, List.forall_mem_cons.mpr ⟨lw_p1, List.forall_mem_cons.mpr ⟨lw_p2, List.forall_mem_cons.mpr ⟨lw_p3, List.forall_mem_cons.mpr ⟨lw_p4, List.forall_mem_cons.mpr ⟨lw_p5, List.forall_mem_cons.mpr ⟨lw_p6, List.forall_mem_cons.mpr ⟨lw_p7, List.forall_mem_cons.mpr ⟨lw_p8, List.forall_mem_cons.mpr ⟨lw_p9, List.forall_mem_cons.mpr ⟨lw_p10, List.forall_mem_cons.mpr ⟨lw_p11, List.forall_mem_cons.mpr ⟨lw_p12, List.forall_mem_cons.mpr ⟨lw_p13, List.forall_mem_cons.mpr ⟨lw_p14, List.forall_mem_cons.mpr ⟨lw_p15, fun _ h => absurd h List.not_mem_nil⟩⟩⟩⟩⟩⟩⟩⟩⟩⟩⟩⟩⟩⟩⟩⟩
theorem lw_p16 : lw_okq (⟨"SafePartsModel", "waitFor", "(II)I"⟩, 6) := ⟨⟨by decide +kernel, by decide +kernel⟩, List.mem_of_getElem? (i := 476) (by decide +kernel), List.mem_of_getElem? (i := 542) (by decide +kernel), List.mem_of_getElem? (i := 543) (by decide +kernel)⟩
theorem lw_p17 : lw_okq (⟨"SafePartsModel", "draw", "(I)I"⟩, 6) := ⟨⟨by decide +kernel, by decide +kernel⟩, List.mem_of_getElem? (i := 476) (by decide +kernel), List.mem_of_getElem? (i := 557) (by decide +kernel), List.mem_of_getElem? (i := 558) (by decide +kernel)⟩
theorem lw_p18 : lw_okq (⟨"SafePartsModel", "canRun", "()Z"⟩, 6) := ⟨⟨by decide +kernel, by decide +kernel⟩, List.mem_of_getElem? (i := 476) (by decide +kernel), List.mem_of_getElem? (i := 569) (by decide +kernel), List.mem_of_getElem? (i := 570) (by decide +kernel)⟩
theorem lw_p19 : lw_okq (⟨"SafePartsModel", "isRing", "()Z"⟩, 6) := ⟨⟨by decide +kernel, by decide +kernel⟩, List.mem_of_getElem? (i := 476) (by decide +kernel), List.mem_of_getElem? (i := 573) (by decide +kernel), List.mem_of_getElem? (i := 574) (by decide +kernel)⟩
theorem lw_p20 : lw_okq (⟨"SafePartsModel", "ringOf", "(I)I"⟩, 6) := ⟨⟨by decide +kernel, by decide +kernel⟩, List.mem_of_getElem? (i := 476) (by decide +kernel), List.mem_of_getElem? (i := 577) (by decide +kernel), List.mem_of_getElem? (i := 578) (by decide +kernel)⟩
theorem lw_p21 : lw_okq (⟨"SafePartsModel", "rounds", "()Z"⟩, 6) := ⟨⟨by decide +kernel, by decide +kernel⟩, List.mem_of_getElem? (i := 476) (by decide +kernel), List.mem_of_getElem? (i := 582) (by decide +kernel), List.mem_of_getElem? (i := 583) (by decide +kernel)⟩
theorem lw_p22 : lw_okq (⟨"SafePartsModel", "may", "(I)Z"⟩, 6) := ⟨⟨by decide +kernel, by decide +kernel⟩, List.mem_of_getElem? (i := 476) (by decide +kernel), List.mem_of_getElem? (i := 586) (by decide +kernel), List.mem_of_getElem? (i := 587) (by decide +kernel)⟩
theorem lw_p23 : lw_okq (⟨"SafePartsModel", "firstOf", "(II)I"⟩, 6) := ⟨⟨by decide +kernel, by decide +kernel⟩, List.mem_of_getElem? (i := 476) (by decide +kernel), List.mem_of_getElem? (i := 590) (by decide +kernel), List.mem_of_getElem? (i := 591) (by decide +kernel)⟩
theorem lw_p24 : lw_okq (⟨"SafePartsModel", "isAhead", "(II)Z"⟩, 6) := ⟨⟨by decide +kernel, by decide +kernel⟩, List.mem_of_getElem? (i := 476) (by decide +kernel), List.mem_of_getElem? (i := 594) (by decide +kernel), List.mem_of_getElem? (i := 595) (by decide +kernel)⟩
theorem lw_p25 : lw_okq (⟨"SafePartsModel", "firstTime", "(II)I"⟩, 6) := ⟨⟨by decide +kernel, by decide +kernel⟩, List.mem_of_getElem? (i := 476) (by decide +kernel), List.mem_of_getElem? (i := 598) (by decide +kernel), List.mem_of_getElem? (i := 599) (by decide +kernel)⟩
theorem lw_p26 : lw_okq (⟨"SafePartsModel", "safe", "(I)I"⟩, 6) := ⟨⟨by decide +kernel, by decide +kernel⟩, List.mem_of_getElem? (i := 476) (by decide +kernel), List.mem_of_getElem? (i := 602) (by decide +kernel), List.mem_of_getElem? (i := 603) (by decide +kernel)⟩
theorem lw_p27 : lw_okq (⟨"SafePartsModel", "leastTo", "(I)I"⟩, 6) := ⟨⟨by decide +kernel, by decide +kernel⟩, List.mem_of_getElem? (i := 476) (by decide +kernel), List.mem_of_getElem? (i := 606) (by decide +kernel), List.mem_of_getElem? (i := 607) (by decide +kernel)⟩
theorem lw_p28 : lw_okq (⟨"SafePartsModel", "works", "(II)V"⟩, 6) := ⟨⟨by decide +kernel, by decide +kernel⟩, List.mem_of_getElem? (i := 476) (by decide +kernel), List.mem_of_getElem? (i := 610) (by decide +kernel), List.mem_of_getElem? (i := 611) (by decide +kernel)⟩
theorem lw_p29 : lw_okq (⟨"SafePartsModel", "outOf", "(II)I"⟩, 6) := ⟨⟨by decide +kernel, by decide +kernel⟩, List.mem_of_getElem? (i := 476) (by decide +kernel), List.mem_of_getElem? (i := 615) (by decide +kernel), List.mem_of_getElem? (i := 616) (by decide +kernel)⟩
theorem lw_p30 : lw_okq (⟨"SafePartsModel", "outAt", "(III)I"⟩, 6) := ⟨⟨by decide +kernel, by decide +kernel⟩, List.mem_of_getElem? (i := 476) (by decide +kernel), List.mem_of_getElem? (i := 619) (by decide +kernel), List.mem_of_getElem? (i := 620) (by decide +kernel)⟩
theorem lw_p31 : lw_okq (⟨"SafePartsModel", "empties", "(I)I"⟩, 6) := ⟨⟨by decide +kernel, by decide +kernel⟩, List.mem_of_getElem? (i := 476) (by decide +kernel), List.mem_of_getElem? (i := 623) (by decide +kernel), List.mem_of_getElem? (i := 624) (by decide +kernel)⟩
def lw_privs_2 : List (MethodName × Nat) := [(⟨"SafePartsModel", "waitFor", "(II)I"⟩, 6), (⟨"SafePartsModel", "draw", "(I)I"⟩, 6), (⟨"SafePartsModel", "canRun", "()Z"⟩, 6), (⟨"SafePartsModel", "isRing", "()Z"⟩, 6), (⟨"SafePartsModel", "ringOf", "(I)I"⟩, 6), (⟨"SafePartsModel", "rounds", "()Z"⟩, 6), (⟨"SafePartsModel", "may", "(I)Z"⟩, 6), (⟨"SafePartsModel", "firstOf", "(II)I"⟩, 6), (⟨"SafePartsModel", "isAhead", "(II)Z"⟩, 6), (⟨"SafePartsModel", "firstTime", "(II)I"⟩, 6), (⟨"SafePartsModel", "safe", "(I)I"⟩, 6), (⟨"SafePartsModel", "leastTo", "(I)I"⟩, 6), (⟨"SafePartsModel", "works", "(II)V"⟩, 6), (⟨"SafePartsModel", "outOf", "(II)I"⟩, 6), (⟨"SafePartsModel", "outAt", "(III)I"⟩, 6), (⟨"SafePartsModel", "empties", "(I)I"⟩, 6)]
theorem lw_r2 : ∀ q ∈ lw_privs_2, lw_okq q := List.forall_mem_cons.mpr ⟨lw_p16, List.forall_mem_cons.mpr ⟨lw_p17, List.forall_mem_cons.mpr ⟨lw_p18, List.forall_mem_cons.mpr ⟨lw_p19, List.forall_mem_cons.mpr ⟨lw_p20, List.forall_mem_cons.mpr ⟨lw_p21, List.forall_mem_cons.mpr ⟨lw_p22, List.forall_mem_cons.mpr ⟨lw_p23, List.forall_mem_cons.mpr ⟨lw_p24, List.forall_mem_cons.mpr ⟨lw_p25, List.forall_mem_cons.mpr ⟨lw_p26, List.forall_mem_cons.mpr ⟨lw_p27, List.forall_mem_cons.mpr ⟨lw_p28, List.forall_mem_cons.mpr ⟨lw_p29, List.forall_mem_cons.mpr ⟨lw_p30, List.forall_mem_cons.mpr ⟨lw_p31, fun _ h => absurd h List.not_mem_nil⟩⟩⟩⟩⟩⟩⟩⟩⟩⟩⟩⟩⟩⟩⟩⟩
theorem lw_p32 : lw_okq (⟨"SafePartsModel", "allMay", "()I"⟩, 6) := ⟨⟨by decide +kernel, by decide +kernel⟩, List.mem_of_getElem? (i := 476) (by decide +kernel), List.mem_of_getElem? (i := 631) (by decide +kernel), List.mem_of_getElem? (i := 632) (by decide +kernel)⟩
theorem lw_p33 : lw_okq (⟨"SafePartsModel", "lets", "()I"⟩, 6) := ⟨⟨by decide +kernel, by decide +kernel⟩, List.mem_of_getElem? (i := 476) (by decide +kernel), List.mem_of_getElem? (i := 635) (by decide +kernel), List.mem_of_getElem? (i := 636) (by decide +kernel)⟩
theorem lw_p34 : lw_okq (⟨"SafePartsModel", "leastTime", "()I"⟩, 6) := ⟨⟨by decide +kernel, by decide +kernel⟩, List.mem_of_getElem? (i := 476) (by decide +kernel), List.mem_of_getElem? (i := 639) (by decide +kernel), List.mem_of_getElem? (i := 640) (by decide +kernel)⟩
theorem lw_p35 : lw_okq (⟨"SafePartsModel", "firstValue", "(I)I"⟩, 6) := ⟨⟨by decide +kernel, by decide +kernel⟩, List.mem_of_getElem? (i := 476) (by decide +kernel), List.mem_of_getElem? (i := 655) (by decide +kernel), List.mem_of_getElem? (i := 656) (by decide +kernel)⟩
theorem lw_p36 : lw_okq (⟨"SafePartsModel", "waitsBy", "(I)I"⟩, 6) := ⟨⟨by decide +kernel, by decide +kernel⟩, List.mem_of_getElem? (i := 476) (by decide +kernel), List.mem_of_getElem? (i := 659) (by decide +kernel), List.mem_of_getElem? (i := 660) (by decide +kernel)⟩
theorem lw_p37 : lw_okq (⟨"SafePartsModel", "waysTo", "(I)I"⟩, 6) := ⟨⟨by decide +kernel, by decide +kernel⟩, List.mem_of_getElem? (i := 476) (by decide +kernel), List.mem_of_getElem? (i := 663) (by decide +kernel), List.mem_of_getElem? (i := 664) (by decide +kernel)⟩
theorem lw_p38 : lw_okq (⟨"SafePartsModel", "isChannel", "(I)Z"⟩, 6) := ⟨⟨by decide +kernel, by decide +kernel⟩, List.mem_of_getElem? (i := 476) (by decide +kernel), List.mem_of_getElem? (i := 671) (by decide +kernel), List.mem_of_getElem? (i := 672) (by decide +kernel)⟩
theorem lw_p39 : lw_okq (⟨"SafePartsModel", "copy", "(II)V"⟩, 6) := ⟨⟨by decide +kernel, by decide +kernel⟩, List.mem_of_getElem? (i := 476) (by decide +kernel), List.mem_of_getElem? (i := 699) (by decide +kernel), List.mem_of_getElem? (i := 700) (by decide +kernel)⟩
def lw_privs_3 : List (MethodName × Nat) := [(⟨"SafePartsModel", "allMay", "()I"⟩, 6), (⟨"SafePartsModel", "lets", "()I"⟩, 6), (⟨"SafePartsModel", "leastTime", "()I"⟩, 6), (⟨"SafePartsModel", "firstValue", "(I)I"⟩, 6), (⟨"SafePartsModel", "waitsBy", "(I)I"⟩, 6), (⟨"SafePartsModel", "waysTo", "(I)I"⟩, 6), (⟨"SafePartsModel", "isChannel", "(I)Z"⟩, 6), (⟨"SafePartsModel", "copy", "(II)V"⟩, 6)]
theorem lw_r3 : ∀ q ∈ lw_privs_3, lw_okq q := List.forall_mem_cons.mpr ⟨lw_p32, List.forall_mem_cons.mpr ⟨lw_p33, List.forall_mem_cons.mpr ⟨lw_p34, List.forall_mem_cons.mpr ⟨lw_p35, List.forall_mem_cons.mpr ⟨lw_p36, List.forall_mem_cons.mpr ⟨lw_p37, List.forall_mem_cons.mpr ⟨lw_p38, List.forall_mem_cons.mpr ⟨lw_p39, fun _ h => absurd h List.not_mem_nil⟩⟩⟩⟩⟩⟩⟩⟩
def lw_privs : List (MethodName × Nat) := lw_privs_1 ++ (lw_privs_2 ++ (lw_privs_3))
def lw_tbl : List Cond := k2_sels lw_privs ++ tables_1
theorem lw_privs_ok : ∀ q ∈ lw_privs, lw_okq q := by
  show ∀ q ∈ lw_privs_1 ++ (lw_privs_2 ++ (lw_privs_3)), lw_okq q
  exact List.forall_mem_append.mpr ⟨lw_r1, List.forall_mem_append.mpr ⟨lw_r2, lw_r3⟩⟩
end
section
/-! ===== BEGIN words of one list among another's, by their places ===== -/
theorem goodIn_r {big : List Cond} (ws : List Cond) (ps : List Nat) (hp : ws = ps.filterMap (fun i => big[i]?)) (h : ws.all goodWord = true) : GoodIn big ws := by
  intro w hw
  have h1 := List.all_eq_true.mp h w hw
  rw [hp] at hw
  obtain ⟨i, -, hi⟩ := List.mem_filterMap.mp hw
  have hm : w ∈ big := by first | exact List.mem_of_getElem? hi | exact List.getElem?_mem hi
  exact ⟨hm, good_of_word h1⟩
theorem goodIn_app {big a b : List Cond} (ha : GoodIn big a) (hb : GoodIn big b) : GoodIn big (a ++ b) := fun w h => (List.mem_append.mp h).elim (ha w) (hb w)
theorem goodIn_ca {big a b : List Cond} {c : Cond} (ha : GoodIn big (c :: a)) (hb : GoodIn big b) : GoodIn big (c :: (a ++ b)) := fun w h => (List.mem_cons.mp h).elim (fun e => ha w (List.mem_cons.mpr (Or.inl e))) (fun h => (List.mem_append.mp h).elim (fun h => ha w (List.mem_cons.mpr (Or.inr h))) (hb w))
theorem goodIn_sub {big ws : List Cond} (hm : ∀ w ∈ ws, w ∈ big) (h : ws.all goodWord = true) : GoodIn big ws := fun w hw => ⟨hm w hw, good_of_word (List.all_eq_true.mp h w hw)⟩
/-! ===== END ===== -/

/-! ===== BEGIN printed: names, fields, word lists, decode rows ===== -/
def RX0 : String := "SafeParts$Channels"
def TX0 : u_T := fun k => match k with
  | 0 => ("SafeParts$Channels", "from", "[I", true)
  | 1 => ("SafeParts$Channels", "to", "[I", true)
  | 2 => ("SafeParts$Channels", "promise", "[I", true)
  | 3 => ("SafeParts$Channels", "delay", "[I", true)
  | 4 => ("SafeParts$Channels", "clock", "[I", true)
  | 5 => ("SafeParts$Channels", "letters", "[I", true)
  | 6 => ("SafeParts$Channels", "empties", "[I", true)
  | _ => ("SafeParts$Channels", "size", "I", false)
def tyX0 : Nat → FieldType := fun k => match k with
  | 0 => .array .int
  | 1 => .array .int
  | 2 => .array .int
  | 3 => .array .int
  | 4 => .array .int
  | 5 => .array .int
  | 6 => .array .int
  | _ => .int
abbrev wsX00 : List Cond := u_ws RX0 TX0 8
theorem nmX0 : ∀ a, a < 8 → ∀ b, b < 8 → a ≠ b → (TX0 a).2.1 ≠ (TX0 b).2.1 := by decide +kernel
theorem tyX0_ok : ∀ k, k < 8 → parseFieldDescriptor (TX0 k).2.2.1 = some (tyX0 k) := by decide +kernel
abbrev cX0_init : ByteArray := prog_2_method_1_code
def yX0_init : MethodName := ⟨RX0, "<init>", "()V"⟩
abbrev cX0_add : ByteArray := prog_2_method_2_code
def yX0_add : MethodName := ⟨RX0, "add", "(IIII)I"⟩
abbrev cX0_copyFrom : ByteArray := prog_2_method_3_code
def yX0_copyFrom : MethodName := ⟨RX0, "copyFrom", "(LSafeParts$Channels;)V"⟩
abbrev cX0_find : ByteArray := prog_2_method_4_code
def yX0_find : MethodName := ⟨RX0, "find", "(II)I"⟩
abbrev cX0_countFrom : ByteArray := prog_2_method_5_code
def yX0_countFrom : MethodName := ⟨RX0, "countFrom", "(I)I"⟩
abbrev cX0_countTo : ByteArray := prog_2_method_6_code
def yX0_countTo : MethodName := ⟨RX0, "countTo", "(I)I"⟩
abbrev cX0_atPlaceFrom : ByteArray := prog_2_method_7_code
def yX0_atPlaceFrom : MethodName := ⟨RX0, "atPlaceFrom", "(II)I"⟩
abbrev cX0_ofLeastClockTo : ByteArray := prog_2_method_8_code
def yX0_ofLeastClockTo : MethodName := ⟨RX0, "ofLeastClockTo", "(I)I"⟩
abbrev cX0_promiseMoreThan : ByteArray := prog_2_method_9_code
def yX0_promiseMoreThan : MethodName := ⟨RX0, "promiseMoreThan", "(II)Z"⟩
abbrev cX0_raiseClocks : ByteArray := prog_2_method_10_code
def yX0_raiseClocks : MethodName := ⟨RX0, "raiseClocks", "(I)V"⟩
abbrev cX0_hasRingWithoutPromise : ByteArray := prog_2_method_11_code
def yX0_hasRingWithoutPromise : MethodName := ⟨RX0, "hasRingWithoutPromise", "(I)Z"⟩
abbrev cX0_reachedWithoutPromise : ByteArray := prog_2_method_12_code
def yX0_reachedWithoutPromise : MethodName := ⟨RX0, "reachedWithoutPromise", "(II)I"⟩
def RX1 : String := "SafeParts$Log"
def TX1 : u_T := fun k => match k with
  | 0 => ("SafeParts$Log", "part", "[I", true)
  | 1 => ("SafeParts$Log", "time", "[I", true)
  | 2 => ("SafeParts$Log", "value", "[I", true)
  | 3 => ("SafeParts$Log", "round", "[I", true)
  | _ => ("SafeParts$Log", "size", "I", false)
def tyX1 : Nat → FieldType := fun k => match k with
  | 0 => .array .int
  | 1 => .array .int
  | 2 => .array .int
  | 3 => .array .int
  | _ => .int
abbrev wsX10 : List Cond := u_ws RX1 TX1 5
theorem nmX1 : ∀ a, a < 5 → ∀ b, b < 5 → a ≠ b → (TX1 a).2.1 ≠ (TX1 b).2.1 := by decide +kernel
theorem tyX1_ok : ∀ k, k < 5 → parseFieldDescriptor (TX1 k).2.2.1 = some (tyX1 k) := by decide +kernel
abbrev cX1_init : ByteArray := prog_3_method_1_code
def yX1_init : MethodName := ⟨RX1, "<init>", "()V"⟩
abbrev cX1_clear : ByteArray := prog_3_method_2_code
def yX1_clear : MethodName := ⟨RX1, "clear", "()V"⟩
abbrev cX1_add : ByteArray := prog_3_method_3_code
def yX1_add : MethodName := ⟨RX1, "add", "(IIII)V"⟩
def RX2 : String := "SafeParts$Waiting"
def TX2 : u_T := fun k => match k with
  | 0 => ("SafeParts$Waiting", "time", "[I", true)
  | 1 => ("SafeParts$Waiting", "value", "[I", true)
  | 2 => ("SafeParts$Waiting", "way", "[I", true)
  | _ => ("SafeParts$Waiting", "size", "I", false)
def tyX2 : Nat → FieldType := fun k => match k with
  | 0 => .array .int
  | 1 => .array .int
  | 2 => .array .int
  | _ => .int
abbrev wsX20 : List Cond := u_ws RX2 TX2 4
theorem nmX2 : ∀ a, a < 4 → ∀ b, b < 4 → a ≠ b → (TX2 a).2.1 ≠ (TX2 b).2.1 := by decide +kernel
theorem tyX2_ok : ∀ k, k < 4 → parseFieldDescriptor (TX2 k).2.2.1 = some (tyX2 k) := by decide +kernel
abbrev cX2_init : ByteArray := prog_4_method_1_code
def yX2_init : MethodName := ⟨RX2, "<init>", "()V"⟩
abbrev cX2_firstTime : ByteArray := prog_4_method_2_code
def yX2_firstTime : MethodName := ⟨RX2, "firstTime", "()I"⟩
abbrev cX2_firstValue : ByteArray := prog_4_method_3_code
def yX2_firstValue : MethodName := ⟨RX2, "firstValue", "()I"⟩
abbrev cX2_add : ByteArray := prog_4_method_4_code
def yX2_add : MethodName := ⟨RX2, "add", "(III)V"⟩
abbrev cX2_isBehind : ByteArray := prog_4_method_5_code
def yX2_isBehind : MethodName := ⟨RX2, "isBehind", "(III)Z"⟩
abbrev cX2_removeFirst : ByteArray := prog_4_method_6_code
def yX2_removeFirst : MethodName := ⟨RX2, "removeFirst", "()V"⟩
abbrev cX2_copyFrom : ByteArray := prog_4_method_7_code
def yX2_copyFrom : MethodName := ⟨RX2, "copyFrom", "(LSafeParts$Waiting;)V"⟩
def RX3 : String := "SafeParts$World"
def TX3 : u_T := fun k => match k with
  | 0 => ("SafeParts$World", "channels", "LSafeParts$Channels;", true)
  | 1 => ("SafeParts$World", "waiting", "[LSafeParts$Waiting;", true)
  | 2 => ("SafeParts$World", "count", "[I", true)
  | 3 => ("SafeParts$World", "sum", "[I", true)
  | 4 => ("SafeParts$World", "now", "[I", true)
  | 5 => ("SafeParts$World", "partCount", "I", false)
  | 6 => ("SafeParts$World", "formNow", "I", false)
  | 7 => ("SafeParts$World", "workedOn", "I", false)
  | 8 => ("SafeParts$World", "emptyLetters", "I", false)
  | 9 => ("SafeParts$World", "rounds", "I", false)
  | 10 => ("SafeParts$World", "timesLetGo", "I", false)
  | _ => ("SafeParts$World", "toldByHand", "I", false)
def tyX3 : Nat → FieldType := fun k => match k with
  | 0 => .object "SafeParts$Channels"
  | 1 => .array (.object "SafeParts$Waiting")
  | 2 => .array .int
  | 3 => .array .int
  | 4 => .array .int
  | 5 => .int
  | 6 => .int
  | 7 => .int
  | 8 => .int
  | 9 => .int
  | 10 => .int
  | _ => .int
abbrev wsX30 : List Cond := u_ws RX3 TX3 12
theorem nmX3 : ∀ a, a < 12 → ∀ b, b < 12 → a ≠ b → (TX3 a).2.1 ≠ (TX3 b).2.1 := by decide +kernel
theorem tyX3_ok : ∀ k, k < 12 → parseFieldDescriptor (TX3 k).2.2.1 = some (tyX3 k) := by decide +kernel
abbrev cX3_init : ByteArray := prog_5_method_1_code
def yX3_init : MethodName := ⟨RX3, "<init>", "()V"⟩
abbrev cX3_beginAnew : ByteArray := prog_5_method_2_code
def yX3_beginAnew : MethodName := ⟨RX3, "beginAnew", "(I)V"⟩
abbrev cX3_copyFrom : ByteArray := prog_5_method_3_code
def yX3_copyFrom : MethodName := ⟨RX3, "copyFrom", "(LSafeParts$World;)V"⟩
abbrev cX3_roundsAndLetGo : ByteArray := prog_5_method_4_code
def yX3_roundsAndLetGo : MethodName := ⟨RX3, "roundsAndLetGo", "()I"⟩
abbrev cX3_eventsThatWait : ByteArray := prog_5_method_5_code
def yX3_eventsThatWait : MethodName := ⟨RX3, "eventsThatWait", "()I"⟩
abbrev cX3_partOfLeastTime : ByteArray := prog_5_method_6_code
def yX3_partOfLeastTime : MethodName := ⟨RX3, "partOfLeastTime", "()I"⟩
abbrev cX3_leastTime : ByteArray := prog_5_method_7_code
def yX3_leastTime : MethodName := ⟨RX3, "leastTime", "()I"⟩
abbrev cX3_safeOf : ByteArray := prog_5_method_8_code
def yX3_safeOf : MethodName := ⟨RX3, "safeOf", "(I)I"⟩
abbrev cX3_mayWork : ByteArray := prog_5_method_9_code
def yX3_mayWork : MethodName := ⟨RX3, "mayWork", "(I)Z"⟩
abbrev cX3_partsThatMay : ByteArray := prog_5_method_10_code
def yX3_partsThatMay : MethodName := ⟨RX3, "partsThatMay", "()I"⟩
abbrev cX3_channelWaitedFor : ByteArray := prog_5_method_11_code
def yX3_channelWaitedFor : MethodName := ⟨RX3, "channelWaitedFor", "(I)I"⟩
abbrev cX3_hasWorkedAtOrBehind : ByteArray := prog_5_method_12_code
def yX3_hasWorkedAtOrBehind : MethodName := ⟨RX3, "hasWorkedAtOrBehind", "(II)Z"⟩
abbrev cX3_tellByHand : ByteArray := prog_5_method_13_code
def yX3_tellByHand : MethodName := ⟨RX3, "tellByHand", "(III)I"⟩
abbrev cX3_workOnFirst : ByteArray := prog_5_method_14_code
def yX3_workOnFirst : MethodName := ⟨RX3, "workOnFirst", "(I)V"⟩
abbrev cX3_sendLetter : ByteArray := prog_5_method_15_code
def yX3_sendLetter : MethodName := ⟨RX3, "sendLetter", "(III)V"⟩
abbrev cX3_sendEmptyLetters : ByteArray := prog_5_method_16_code
def yX3_sendEmptyLetters : MethodName := ⟨RX3, "sendEmptyLetters", "(I)V"⟩
abbrev cX3_emptyMayGo : ByteArray := prog_5_method_17_code
def yX3_emptyMayGo : MethodName := ⟨RX3, "emptyMayGo", "(I)Z"⟩
def RX4 : String := "SafeParts"
def TX4 : u_T := fun k => match k with
  | 0 => ("SafeParts", "world", "LSafeParts$World;", true)
  | 1 => ("SafeParts", "trial", "LSafeParts$World;", true)
  | 2 => ("SafeParts", "images", "[LSafeParts$World;", true)
  | 3 => ("SafeParts", "isKept", "[Z", true)
  | 4 => ("SafeParts", "log", "LSafeParts$Log;", true)
  | _ => ("SafeParts", "leastTo", "[I", true)
def tyX4 : Nat → FieldType := fun k => match k with
  | 0 => .object "SafeParts$World"
  | 1 => .object "SafeParts$World"
  | 2 => .array (.object "SafeParts$World")
  | 3 => .array .boolean
  | 4 => .object "SafeParts$Log"
  | _ => .array .int
abbrev wsX40 : List Cond := u_ws RX4 TX4 6
theorem nmX4 : ∀ a, a < 6 → ∀ b, b < 6 → a ≠ b → (TX4 a).2.1 ≠ (TX4 b).2.1 := by decide +kernel
theorem tyX4_ok : ∀ k, k < 6 → parseFieldDescriptor (TX4 k).2.2.1 = some (tyX4 k) := by decide +kernel
abbrev cX4_init : ByteArray := prog_1_method_1_code
def yX4_init : MethodName := ⟨RX4, "<init>", "()V"⟩
abbrev cX4_parts : ByteArray := prog_1_method_2_code
def yX4_parts : MethodName := ⟨RX4, "parts", "(I)I"⟩
abbrev cX4_channel : ByteArray := prog_1_method_3_code
def yX4_channel : MethodName := ⟨RX4, "channel", "(IIII)I"⟩
abbrev cX4_event : ByteArray := prog_1_method_4_code
def yX4_event : MethodName := ⟨RX4, "event", "(III)I"⟩
abbrev cX4_form : ByteArray := prog_1_method_5_code
def yX4_form : MethodName := ⟨RX4, "form", "(I)I"⟩
abbrev cX4_drift : ByteArray := prog_1_method_6_code
def yX4_drift : MethodName := ⟨RX4, "drift", "(II)I"⟩
abbrev cX4_run : ByteArray := prog_1_method_7_code
def yX4_run : MethodName := ⟨RX4, "run", "(I)I"⟩
abbrev cX4_letGo : ByteArray := prog_1_method_8_code
def yX4_letGo : MethodName := ⟨RX4, "letGo", "()I"⟩
abbrev cX4_finish : ByteArray := prog_1_method_9_code
def yX4_finish : MethodName := ⟨RX4, "finish", "()I"⟩
abbrev cX4_told : ByteArray := prog_1_method_10_code
def yX4_told : MethodName := ⟨RX4, "told", "(I)I"⟩
abbrev cX4_part : ByteArray := prog_1_method_11_code
def yX4_part : MethodName := ⟨RX4, "part", "(II)I"⟩
abbrev cX4_channelOf : ByteArray := prog_1_method_12_code
def yX4_channelOf : MethodName := ⟨RX4, "channelOf", "(II)I"⟩
abbrev cX4_between : ByteArray := prog_1_method_13_code
def yX4_between : MethodName := ⟨RX4, "between", "(II)I"⟩
abbrev cX4_record : ByteArray := prog_1_method_14_code
def yX4_record : MethodName := ⟨RX4, "record", "(II)I"⟩
abbrev cX4_ring : ByteArray := prog_1_method_15_code
def yX4_ring : MethodName := ⟨RX4, "ring", "(I)I"⟩
abbrev cX4_waits : ByteArray := prog_1_method_16_code
def yX4_waits : MethodName := ⟨RX4, "waits", "(I)I"⟩
abbrev cX4_inOrder : ByteArray := prog_1_method_17_code
def yX4_inOrder : MethodName := ⟨RX4, "inOrder", "(II)I"⟩
abbrev cX4_keep : ByteArray := prog_1_method_18_code
def yX4_keep : MethodName := ⟨RX4, "keep", "(I)I"⟩
abbrev cX4_goBack : ByteArray := prog_1_method_19_code
def yX4_goBack : MethodName := ⟨RX4, "goBack", "(I)I"⟩
abbrev cX4_isOutside : ByteArray := prog_1_method_20_code
def yX4_isOutside : MethodName := ⟨RX4, "isOutside", "(III)Z"⟩
abbrev cX4_isNoImage : ByteArray := prog_1_method_21_code
def yX4_isNoImage : MethodName := ⟨RX4, "isNoImage", "(I)Z"⟩
abbrev cX4_isNoPart : ByteArray := prog_1_method_22_code
def yX4_isNoPart : MethodName := ⟨RX4, "isNoPart", "(I)Z"⟩
abbrev cX4_areNotTwoParts : ByteArray := prog_1_method_23_code
def yX4_areNotTwoParts : MethodName := ⟨RX4, "areNotTwoParts", "(II)Z"⟩
abbrev cX4_refusalOfEvent : ByteArray := prog_1_method_24_code
def yX4_refusalOfEvent : MethodName := ⟨RX4, "refusalOfEvent", "(III)I"⟩
abbrev cX4_nothingIsRun : ByteArray := prog_1_method_25_code
def yX4_nothingIsRun : MethodName := ⟨RX4, "nothingIsRun", "()Z"⟩
abbrev cX4_nextLot : ByteArray := prog_1_method_26_code
def yX4_nextLot : MethodName := ⟨RX4, "nextLot", "(J)J"⟩
abbrev cX4_isStillAfterRound : ByteArray := prog_1_method_27_code
def yX4_isStillAfterRound : MethodName := ⟨RX4, "isStillAfterRound", "()Z"⟩
abbrev cX4_letEarliestGo : ByteArray := prog_1_method_28_code
def yX4_letEarliestGo : MethodName := ⟨RX4, "letEarliestGo", "()I"⟩
abbrev cX4_workAndWriteDown : ByteArray := prog_1_method_29_code
def yX4_workAndWriteDown : MethodName := ⟨RX4, "workAndWriteDown", "(I)V"⟩
abbrev cX4_leastPromisesRound : ByteArray := prog_1_method_30_code
def yX4_leastPromisesRound : MethodName := ⟨RX4, "leastPromisesRound", "(I)I"⟩
def RX5 : String := "SafePartsModel"
def TX5 : u_T := fun k => match k with
  | 0 => ("SafePartsModel", "w", "[I", true)
  | 1 => ("SafePartsModel", "isKept", "[Z", true)
  | 2 => ("SafePartsModel", "entries", "I", false)
  | 3 => ("SafePartsModel", "records", "[I", true)
  | 4 => ("SafePartsModel", "lot", "J", false)
  | _ => ("SafePartsModel", "far", "[I", true)
def tyX5 : Nat → FieldType := fun k => match k with
  | 0 => .array .int
  | 1 => .array .boolean
  | 2 => .int
  | 3 => .array .int
  | 4 => .long
  | _ => .array .int
abbrev wsX50 : List Cond := u_ws RX5 TX5 6
theorem nmX5 : ∀ a, a < 6 → ∀ b, b < 6 → a ≠ b → (TX5 a).2.1 ≠ (TX5 b).2.1 := by decide +kernel
theorem tyX5_ok : ∀ k, k < 6 → parseFieldDescriptor (TX5 k).2.2.1 = some (tyX5 k) := by decide +kernel
abbrev cX5_init : ByteArray := prog_7_method_1_code
def yX5_init : MethodName := ⟨RX5, "<init>", "()V"⟩
abbrev cX5_in : ByteArray := prog_7_method_3_code
def yX5_in : MethodName := ⟨RX5, "in", "(JJJ)Z"⟩
abbrev cX5_has : ByteArray := prog_7_method_4_code
def yX5_has : MethodName := ⟨RX5, "has", "(II)Z"⟩
abbrev cX5_copy : ByteArray := prog_7_method_5_code
def yX5_copy : MethodName := ⟨RX5, "copy", "(II)V"⟩
abbrev cX5_isPart : ByteArray := prog_7_method_6_code
def yX5_isPart : MethodName := ⟨RX5, "isPart", "(I)Z"⟩
abbrev cX5_isChannel : ByteArray := prog_7_method_7_code
def yX5_isChannel : MethodName := ⟨RX5, "isChannel", "(I)Z"⟩
abbrev cX5_at : ByteArray := prog_7_method_8_code
def yX5_at : MethodName := ⟨RX5, "at", "(II)I"⟩
abbrev cX5_parts : ByteArray := prog_7_method_9_code
def yX5_parts : MethodName := ⟨RX5, "parts", "(I)I"⟩
abbrev cX5_wayOf : ByteArray := prog_7_method_10_code
def yX5_wayOf : MethodName := ⟨RX5, "wayOf", "(II)I"⟩
abbrev cX5_channel : ByteArray := prog_7_method_11_code
def yX5_channel : MethodName := ⟨RX5, "channel", "(IIII)I"⟩
abbrev cX5_comes : ByteArray := prog_7_method_12_code
def yX5_comes : MethodName := ⟨RX5, "comes", "(IIIII)V"⟩
abbrev cX5_waitFor : ByteArray := prog_7_method_13_code
def yX5_waitFor : MethodName := ⟨RX5, "waitFor", "(II)I"⟩
abbrev cX5_isPromised : ByteArray := prog_7_method_14_code
def yX5_isPromised : MethodName := ⟨RX5, "isPromised", "(II)Z"⟩
abbrev cX5_event : ByteArray := prog_7_method_15_code
def yX5_event : MethodName := ⟨RX5, "event", "(III)I"⟩
abbrev cX5_form : ByteArray := prog_7_method_16_code
def yX5_form : MethodName := ⟨RX5, "form", "(I)I"⟩
abbrev cX5_draw : ByteArray := prog_7_method_17_code
def yX5_draw : MethodName := ⟨RX5, "draw", "(I)I"⟩
abbrev cX5_drift : ByteArray := prog_7_method_18_code
def yX5_drift : MethodName := ⟨RX5, "drift", "(II)I"⟩
abbrev cX5_isAhead : ByteArray := prog_7_method_19_code
def yX5_isAhead : MethodName := ⟨RX5, "isAhead", "(II)Z"⟩
abbrev cX5_firstOf : ByteArray := prog_7_method_20_code
def yX5_firstOf : MethodName := ⟨RX5, "firstOf", "(II)I"⟩
abbrev cX5_firstTime : ByteArray := prog_7_method_21_code
def yX5_firstTime : MethodName := ⟨RX5, "firstTime", "(II)I"⟩
abbrev cX5_leastTo : ByteArray := prog_7_method_22_code
def yX5_leastTo : MethodName := ⟨RX5, "leastTo", "(I)I"⟩
abbrev cX5_safe : ByteArray := prog_7_method_23_code
def yX5_safe : MethodName := ⟨RX5, "safe", "(I)I"⟩
abbrev cX5_may : ByteArray := prog_7_method_24_code
def yX5_may : MethodName := ⟨RX5, "may", "(I)Z"⟩
abbrev cX5_outOf : ByteArray := prog_7_method_25_code
def yX5_outOf : MethodName := ⟨RX5, "outOf", "(II)I"⟩
abbrev cX5_outAt : ByteArray := prog_7_method_26_code
def yX5_outAt : MethodName := ⟨RX5, "outAt", "(III)I"⟩
abbrev cX5_works : ByteArray := prog_7_method_27_code
def yX5_works : MethodName := ⟨RX5, "works", "(II)V"⟩
abbrev cX5_empties : ByteArray := prog_7_method_28_code
def yX5_empties : MethodName := ⟨RX5, "empties", "(I)I"⟩
abbrev cX5_rounds : ByteArray := prog_7_method_29_code
def yX5_rounds : MethodName := ⟨RX5, "rounds", "()Z"⟩
abbrev cX5_leastTime : ByteArray := prog_7_method_30_code
def yX5_leastTime : MethodName := ⟨RX5, "leastTime", "()I"⟩
abbrev cX5_lets : ByteArray := prog_7_method_31_code
def yX5_lets : MethodName := ⟨RX5, "lets", "()I"⟩
abbrev cX5_isRing : ByteArray := prog_7_method_32_code
def yX5_isRing : MethodName := ⟨RX5, "isRing", "()Z"⟩
abbrev cX5_canRun : ByteArray := prog_7_method_33_code
def yX5_canRun : MethodName := ⟨RX5, "canRun", "()Z"⟩
abbrev cX5_run : ByteArray := prog_7_method_34_code
def yX5_run : MethodName := ⟨RX5, "run", "(I)I"⟩
abbrev cX5_allMay : ByteArray := prog_7_method_35_code
def yX5_allMay : MethodName := ⟨RX5, "allMay", "()I"⟩
abbrev cX5_letGo : ByteArray := prog_7_method_36_code
def yX5_letGo : MethodName := ⟨RX5, "letGo", "()I"⟩
abbrev cX5_finish : ByteArray := prog_7_method_37_code
def yX5_finish : MethodName := ⟨RX5, "finish", "()I"⟩
abbrev cX5_told : ByteArray := prog_7_method_38_code
def yX5_told : MethodName := ⟨RX5, "told", "(I)I"⟩
abbrev cX5_waitsBy : ByteArray := prog_7_method_39_code
def yX5_waitsBy : MethodName := ⟨RX5, "waitsBy", "(I)I"⟩
abbrev cX5_waysTo : ByteArray := prog_7_method_40_code
def yX5_waysTo : MethodName := ⟨RX5, "waysTo", "(I)I"⟩
abbrev cX5_firstValue : ByteArray := prog_7_method_41_code
def yX5_firstValue : MethodName := ⟨RX5, "firstValue", "(I)I"⟩
abbrev cX5_part : ByteArray := prog_7_method_42_code
def yX5_part : MethodName := ⟨RX5, "part", "(II)I"⟩
abbrev cX5_channelOf : ByteArray := prog_7_method_43_code
def yX5_channelOf : MethodName := ⟨RX5, "channelOf", "(II)I"⟩
abbrev cX5_between : ByteArray := prog_7_method_44_code
def yX5_between : MethodName := ⟨RX5, "between", "(II)I"⟩
abbrev cX5_record : ByteArray := prog_7_method_45_code
def yX5_record : MethodName := ⟨RX5, "record", "(II)I"⟩
abbrev cX5_ringOf : ByteArray := prog_7_method_46_code
def yX5_ringOf : MethodName := ⟨RX5, "ringOf", "(I)I"⟩
abbrev cX5_ring : ByteArray := prog_7_method_47_code
def yX5_ring : MethodName := ⟨RX5, "ring", "(I)I"⟩
abbrev cX5_waits : ByteArray := prog_7_method_48_code
def yX5_waits : MethodName := ⟨RX5, "waits", "(I)I"⟩
abbrev cX5_inOrder : ByteArray := prog_7_method_49_code
def yX5_inOrder : MethodName := ⟨RX5, "inOrder", "(II)I"⟩
abbrev cX5_keep : ByteArray := prog_7_method_50_code
def yX5_keep : MethodName := ⟨RX5, "keep", "(I)I"⟩
abbrev cX5_goBack : ByteArray := prog_7_method_51_code
def yX5_goBack : MethodName := ⟨RX5, "goBack", "(I)I"⟩
def RJ9 : String := "java/lang/Math"
def TJ9 : u_T := fun k => match k with
  | _ => ("", "", "", false)
def tyJ9 : Nat → FieldType := fun k => match k with
  | _ => .int
abbrev wsJ90 : List Cond := u_ws RJ9 TJ9 0
theorem nmJ9 : ∀ a, a < 0 → ∀ b, b < 0 → a ≠ b → (TJ9 a).2.1 ≠ (TJ9 b).2.1 := by decide +kernel
theorem tyJ9_ok : ∀ k, k < 0 → parseFieldDescriptor (TJ9 k).2.2.1 = some (tyJ9 k) := by decide +kernel
abbrev cJ9_max_7cf53 : ByteArray := prog_8_method_65_code
def yJ9_max_7cf53 : MethodName := ⟨RJ9, "max", "(II)I"⟩
abbrev cJ9_min_7cf53 : ByteArray := prog_8_method_69_code
def yJ9_min_7cf53 : MethodName := ⟨RJ9, "min", "(II)I"⟩
def RJ10 : String := "java/lang/System"
def TJ10 : u_T := fun k => match k with
  | _ => ("", "", "", false)
def tyJ10 : Nat → FieldType := fun k => match k with
  | _ => .int
abbrev wsJ100 : List Cond := u_ws RJ10 TJ10 0
theorem nmJ10 : ∀ a, a < 0 → ∀ b, b < 0 → a ≠ b → (TJ10 a).2.1 ≠ (TJ10 b).2.1 := by decide +kernel
theorem tyJ10_ok : ∀ k, k < 0 → parseFieldDescriptor (TJ10 k).2.2.1 = some (tyJ10 k) := by decide +kernel
def RL : String := "SafePartsLaw"
abbrev cL_law : ByteArray := code
def yL_law : MethodName := ⟨RL, "law", "([I)Z"⟩
def wsL_law_r1 : List Cond := [Cond.classLink RL 7 RX4, Cond.instantiable RX4 6, Cond.initialized RX4, Cond.classLink RL 10 RX5, Cond.instantiable RX5 6, Cond.initialized RX5, Cond.methodLink RL 9 yX4_init, Cond.instanceMethod yX4_init, Cond.code yX4_init cX4_init 2 none, Cond.methodLink RX4 1 objectInit, Cond.instanceMethod objectInit, Cond.code objectInit ⟨#[0xb1]⟩ 1 none, Cond.classLink RX4 7 RX3, Cond.instantiable RX3 12, Cond.initialized RX3, Cond.fieldLink RX4 10 "SafeParts" "world" "LSafeParts$World;", Cond.fieldLink RX4 16 "SafeParts" "trial" "LSafeParts$World;", Cond.fieldLink RX4 19 "SafeParts" "images" "[LSafeParts$World;", Cond.arrayClass .boolean, Cond.fieldLink RX4 23 "SafeParts" "isKept" "[Z", Cond.classLink RX4 27 RX1, Cond.instantiable RX1 5, Cond.initialized RX1, Cond.fieldLink RX4 30 "SafeParts" "log" "LSafeParts$Log;"]
def wsL_law_r2 : List Cond := [Cond.arrayClass .int, Cond.fieldLink RX4 34 "SafeParts" "leastTo" "[I", Cond.methodLink RX4 9 yX3_init, Cond.instanceMethod yX3_init, Cond.code yX3_init cX3_init 2 none, Cond.methodLink RX3 3 objectInit, Cond.classLink RX3 9 RX0, Cond.instantiable RX0 8, Cond.initialized RX0, Cond.fieldLink RX3 12 "SafeParts$World" "channels" "LSafeParts$Channels;", Cond.classLink RX3 18 RX2, Cond.fieldLink RX3 20 "SafeParts$World" "waiting" "[LSafeParts$Waiting;", Cond.fieldLink RX3 24 "SafeParts$World" "count" "[I", Cond.fieldLink RX3 28 "SafeParts$World" "sum" "[I", Cond.fieldLink RX3 31 "SafeParts$World" "now" "[I", Cond.fieldLink RX3 34 "SafeParts$World" "formNow" "I", Cond.instantiable RX2 4, Cond.initialized RX2, Cond.instanceMethod yX0_init, Cond.code yX0_init cX0_init 1 none, Cond.methodLink RX0 3 objectInit, Cond.fieldLink RX0 9 "SafeParts$Channels" "from" "[I", Cond.fieldLink RX0 15 "SafeParts$Channels" "to" "[I", Cond.fieldLink RX0 18 "SafeParts$Channels" "promise" "[I"]
def wsL_law_r3 : List Cond := [Cond.fieldLink RX0 21 "SafeParts$Channels" "delay" "[I", Cond.fieldLink RX0 24 "SafeParts$Channels" "clock" "[I", Cond.fieldLink RX0 27 "SafeParts$Channels" "letters" "[I", Cond.fieldLink RX0 30 "SafeParts$Channels" "empties" "[I", Cond.instanceMethod yX2_init, Cond.code yX2_init cX2_init 1 none, Cond.methodLink RX2 3 objectInit, Cond.fieldLink RX2 9 "SafeParts$Waiting" "time" "[I", Cond.fieldLink RX2 15 "SafeParts$Waiting" "value" "[I", Cond.fieldLink RX2 18 "SafeParts$Waiting" "way" "[I", Cond.instanceMethod yX1_init, Cond.code yX1_init cX1_init 1 none, Cond.methodLink RX1 3 objectInit, Cond.fieldLink RX1 9 "SafeParts$Log" "part" "[I", Cond.fieldLink RX1 15 "SafeParts$Log" "time" "[I", Cond.fieldLink RX1 18 "SafeParts$Log" "value" "[I", Cond.fieldLink RX1 21 "SafeParts$Log" "round" "[I", Cond.methodLink RL 12 yX5_init, Cond.instanceMethod yX5_init, Cond.code yX5_init cX5_init 1 none, Cond.methodLink RX5 1 objectInit, Cond.fieldLink RX5 7 "SafePartsModel" "w" "[I", Cond.fieldLink RX5 13 "SafePartsModel" "isKept" "[Z", Cond.fieldLink RX5 17 "SafePartsModel" "records" "[I"]
def wsL_law_r4 : List Cond := [Cond.fieldLink RX5 20 "SafePartsModel" "far" "[I", Cond.methodLink RL 13 yX4_parts, Cond.instanceMethod yX4_parts, Cond.selects RX4 yX4_parts yX4_parts, Cond.code yX4_parts cX4_parts 4 (some .int), Cond.constant RX4 42 (-1000000002), Cond.fieldLink RX4 43 "SafeParts$World" "workedOn" "I", Cond.methodLink RX4 38 yX4_isOutside, Cond.static yX4_isOutside, Cond.code yX4_isOutside cX4_isOutside 3 (some .boolean), Cond.methodLink RX4 47 yX3_beginAnew, Cond.instanceMethod yX3_beginAnew, Cond.selects RX3 yX3_beginAnew yX3_beginAnew, Cond.code yX3_beginAnew cX3_beginAnew 3 none, Cond.fieldLink RX3 39 "SafeParts$Channels" "size" "I", Cond.fieldLink RX3 42 "SafeParts$Waiting" "size" "I", Cond.fieldLink RX3 43 "SafeParts$World" "partCount" "I", Cond.fieldLink RX3 46 "SafeParts$World" "workedOn" "I", Cond.fieldLink RX3 49 "SafeParts$World" "emptyLetters" "I", Cond.fieldLink RX3 52 "SafeParts$World" "rounds" "I", Cond.fieldLink RX3 55 "SafeParts$World" "timesLetGo" "I", Cond.fieldLink RX3 58 "SafeParts$World" "toldByHand" "I", Cond.methodLink RX4 51 yX1_clear, Cond.instanceMethod yX1_clear]
def wsL_law_r5 : List Cond := [Cond.selects RX1 yX1_clear yX1_clear, Cond.code yX1_clear cX1_clear 1 none, Cond.fieldLink RX1 24 "SafeParts$Log" "size" "I", Cond.methodLink RL 17 yX5_parts, Cond.instanceMethod yX5_parts, Cond.selects RX5 yX5_parts yX5_parts, Cond.code yX5_parts cX5_parts 5 (some .int), Cond.constantLong RX5 27 (6), Cond.constant RX5 29 (-1000000002), Cond.fieldLink RX5 30 "SafePartsModel" "entries" "I", Cond.methodLink RX5 23 yX5_in, Cond.static yX5_in, Cond.code yX5_in cX5_in 6 (some .boolean), Cond.methodLink RL 18 yX4_channel, Cond.instanceMethod yX4_channel, Cond.selects RX4 yX4_channel yX4_channel, Cond.code yX4_channel cX4_channel 5 (some .int), Cond.constant RX4 58 (-1000000001), Cond.fieldLink RX4 59 "SafeParts$World" "channels" "LSafeParts$Channels;", Cond.constant RX4 73 (-1000000003), Cond.fieldLink RX4 74 "SafeParts$Channels" "size" "I", Cond.constant RX4 77 (-1000000004), Cond.methodLink RX4 54 yX4_areNotTwoParts, Cond.instanceMethod yX4_areNotTwoParts]
def wsL_law_r6 : List Cond := [Cond.selects RX4 yX4_areNotTwoParts yX4_areNotTwoParts, Cond.code yX4_areNotTwoParts cX4_areNotTwoParts 3 (some .boolean), Cond.methodLink RX4 143 yX4_isNoPart, Cond.instanceMethod yX4_isNoPart, Cond.selects RX4 yX4_isNoPart yX4_isNoPart, Cond.code yX4_isNoPart cX4_isNoPart 2 (some .boolean), Cond.fieldLink RX4 93 "SafeParts$World" "partCount" "I", Cond.methodLink RX4 63 yX0_find, Cond.instanceMethod yX0_find, Cond.selects RX0 yX0_find yX0_find, Cond.code yX0_find cX0_find 4 (some .int), Cond.fieldLink RX0 33 "SafeParts$Channels" "size" "I", Cond.methodLink RX4 69 yX3_roundsAndLetGo, Cond.instanceMethod yX3_roundsAndLetGo, Cond.selects RX3 yX3_roundsAndLetGo yX3_roundsAndLetGo, Cond.code yX3_roundsAndLetGo cX3_roundsAndLetGo 1 (some .int), Cond.methodLink RX4 78 yX0_add, Cond.instanceMethod yX0_add, Cond.selects RX0 yX0_add yX0_add, Cond.code yX0_add cX0_add 6 (some .int), Cond.methodLink RL 22 yX5_channel, Cond.instanceMethod yX5_channel, Cond.selects RX5 yX5_channel yX5_channel, Cond.code yX5_channel cX5_channel 6 (some .int)]
def wsL_law_r7 : List Cond := [Cond.constant RX5 42 (-1000000001), Cond.constantLong RX5 43 (99), Cond.constant RX5 48 (-1000000003), Cond.constant RX5 49 (-1000000004), Cond.methodLink RX5 38 yX5_isPart, Cond.instanceMethod yX5_isPart, Cond.selects RX5 yX5_isPart yX5_isPart, Cond.code yX5_isPart cX5_isPart 2 (some .boolean), Cond.methodLink RX5 45 yX5_wayOf, Cond.instanceMethod yX5_wayOf, Cond.selects RX5 yX5_wayOf yX5_wayOf, Cond.code yX5_wayOf cX5_wayOf 4 (some .int), Cond.methodLink RX5 34 yX5_at, Cond.static yX5_at, Cond.code yX5_at cX5_at 2 (some .int), Cond.methodLink RL 23 yX4_event, Cond.instanceMethod yX4_event, Cond.selects RX4 yX4_event yX4_event, Cond.code yX4_event cX4_event 5 (some .int), Cond.methodLink RX4 82 yX4_refusalOfEvent, Cond.instanceMethod yX4_refusalOfEvent, Cond.selects RX4 yX4_refusalOfEvent yX4_refusalOfEvent, Cond.code yX4_refusalOfEvent cX4_refusalOfEvent 4 (some .int), Cond.fieldLink RX4 140 "SafeParts$World" "toldByHand" "I"]
def wsL_law_r8 : List Cond := [Cond.methodLink RX4 231 yX3_hasWorkedAtOrBehind, Cond.instanceMethod yX3_hasWorkedAtOrBehind, Cond.selects RX3 yX3_hasWorkedAtOrBehind yX3_hasWorkedAtOrBehind, Cond.code yX3_hasWorkedAtOrBehind cX3_hasWorkedAtOrBehind 3 (some .boolean), Cond.methodLink RX4 234 yX0_promiseMoreThan, Cond.instanceMethod yX0_promiseMoreThan, Cond.selects RX0 yX0_promiseMoreThan yX0_promiseMoreThan, Cond.code yX0_promiseMoreThan cX0_promiseMoreThan 4 (some .boolean), Cond.methodLink RX4 86 yX3_tellByHand, Cond.instanceMethod yX3_tellByHand, Cond.selects RX3 yX3_tellByHand yX3_tellByHand, Cond.code yX3_tellByHand cX3_tellByHand 4 (some .int), Cond.methodLink RX3 90 yX2_add, Cond.instanceMethod yX2_add, Cond.selects RX2 yX2_add yX2_add, Cond.code yX2_add cX2_add 5 none, Cond.fieldLink RX2 21 "SafeParts$Waiting" "size" "I", Cond.methodLink RX2 26 yX2_isBehind, Cond.instanceMethod yX2_isBehind, Cond.selects RX2 yX2_isBehind yX2_isBehind, Cond.code yX2_isBehind cX2_isBehind 4 (some .boolean), Cond.methodLink RL 27 yX5_event, Cond.instanceMethod yX5_event, Cond.selects RX5 yX5_event yX5_event]
def wsL_law_r9 : List Cond := [Cond.code yX5_event cX5_event 4 (some .int), Cond.constantLong RX5 50 (9999), Cond.methodLink RX5 52 yX5_isPromised, Cond.instanceMethod yX5_isPromised, Cond.selects RX5 yX5_isPromised yX5_isPromised, Cond.code yX5_isPromised cX5_isPromised 5 (some .boolean), Cond.methodLink RX5 56 yX5_comes, Cond.instanceMethod yX5_comes, Cond.selects RX5 yX5_comes yX5_comes, Cond.code yX5_comes cX5_comes 7 none, Cond.methodLink RX5 60 yX5_waitFor, Cond.instanceMethod yX5_waitFor, Cond.selects RX5 yX5_waitFor yX5_waitFor, Cond.code yX5_waitFor cX5_waitFor 5 (some .int), Cond.methodLink RL 28 yX4_form, Cond.instanceMethod yX4_form, Cond.selects RX4 yX4_form yX4_form, Cond.code yX4_form cX4_form 3 (some .int), Cond.fieldLink RX4 89 "SafeParts$World" "formNow" "I", Cond.methodLink RL 31 yX5_form, Cond.instanceMethod yX5_form, Cond.selects RX5 yX5_form yX5_form, Cond.code yX5_form cX5_form 3 (some .int), Cond.constantLong RX5 63 (2)]
def wsL_law_r10 : List Cond := [Cond.methodLink RL 32 yX4_drift, Cond.instanceMethod yX4_drift, Cond.selects RX4 yX4_drift yX4_drift, Cond.code yX4_drift cX4_drift 11 (some .int), Cond.constant RX4 92 (999999), Cond.fieldLink RX4 100 "SafeParts$World" "now" "[I", Cond.constantLong RX4 103 (50), Cond.constantLong RX4 105 (20), Cond.methodLink RX4 96 yX4_nextLot, Cond.static yX4_nextLot, Cond.code yX4_nextLot cX4_nextLot 2 (some .long), Cond.constantLong RX4 237 (16807), Cond.constantLong RX4 239 (2147483647), Cond.methodLink RL 36 yX5_drift, Cond.instanceMethod yX5_drift, Cond.selects RX5 yX5_drift yX5_drift, Cond.code yX5_drift cX5_drift 8 (some .int), Cond.constantLong RX5 73 (20), Cond.constantLong RX5 75 (999999), Cond.fieldLink RX5 65 "SafePartsModel" "lot" "J", Cond.methodLink RX5 77 yX5_draw, Cond.instanceMethod yX5_draw, Cond.selects RX5 yX5_draw yX5_draw, Cond.code yX5_draw cX5_draw 2 (some .int)]
def wsL_law_r11 : List Cond := [Cond.constantLong RX5 69 (16807), Cond.constantLong RX5 71 (2147483647), Cond.methodLink RX5 81 yX5_event, Cond.methodLink RL 37 yX4_run, Cond.instanceMethod yX4_run, Cond.selects RX4 yX4_run yX4_run, Cond.code yX4_run cX4_run 5 (some .int), Cond.methodLink RX4 107 yX4_nothingIsRun, Cond.instanceMethod yX4_nothingIsRun, Cond.selects RX4 yX4_nothingIsRun yX4_nothingIsRun, Cond.code yX4_nothingIsRun cX4_nothingIsRun 1 (some .boolean), Cond.methodLink RX4 136 yX0_hasRingWithoutPromise, Cond.instanceMethod yX0_hasRingWithoutPromise, Cond.selects RX0 yX0_hasRingWithoutPromise yX0_hasRingWithoutPromise, Cond.code yX0_hasRingWithoutPromise cX0_hasRingWithoutPromise 3 (some .boolean), Cond.methodLink RX0 49 yX0_reachedWithoutPromise, Cond.instanceMethod yX0_reachedWithoutPromise, Cond.selects RX0 yX0_reachedWithoutPromise yX0_reachedWithoutPromise, Cond.code yX0_reachedWithoutPromise cX0_reachedWithoutPromise 7 (some .int), Cond.methodLink RX4 111 yX3_eventsThatWait, Cond.instanceMethod yX3_eventsThatWait, Cond.selects RX3 yX3_eventsThatWait yX3_eventsThatWait, Cond.code yX3_eventsThatWait cX3_eventsThatWait 3 (some .int), Cond.methodLink RX4 114 yX4_isStillAfterRound]
def wsL_law_r12 : List Cond := [Cond.instanceMethod yX4_isStillAfterRound, Cond.selects RX4 yX4_isStillAfterRound yX4_isStillAfterRound, Cond.code yX4_isStillAfterRound cX4_isStillAfterRound 4 (some .boolean), Cond.fieldLink RX4 123 "SafeParts$World" "emptyLetters" "I", Cond.fieldLink RX4 126 "SafeParts$World" "rounds" "I", Cond.methodLink RX4 169 yX3_mayWork, Cond.instanceMethod yX3_mayWork, Cond.selects RX3 yX3_mayWork yX3_mayWork, Cond.code yX3_mayWork cX3_mayWork 2 (some .boolean), Cond.methodLink RX3 68 yX2_firstTime, Cond.instanceMethod yX2_firstTime, Cond.selects RX2 yX2_firstTime yX2_firstTime, Cond.code yX2_firstTime cX2_firstTime 1 (some .int), Cond.constant RX2 25 (99999999), Cond.methodLink RX3 83 yX3_safeOf, Cond.instanceMethod yX3_safeOf, Cond.selects RX3 yX3_safeOf yX3_safeOf, Cond.code yX3_safeOf cX3_safeOf 3 (some .int), Cond.constant RX3 79 (99999999), Cond.fieldLink RX3 80 "SafeParts$Channels" "clock" "[I", Cond.methodLink RX3 75 yX0_ofLeastClockTo, Cond.instanceMethod yX0_ofLeastClockTo, Cond.selects RX0 yX0_ofLeastClockTo yX0_ofLeastClockTo, Cond.code yX0_ofLeastClockTo cX0_ofLeastClockTo 4 (some .int)]
def wsL_law_r13 : List Cond := [Cond.methodLink RX4 241 yX4_workAndWriteDown, Cond.instanceMethod yX4_workAndWriteDown, Cond.selects RX4 yX4_workAndWriteDown yX4_workAndWriteDown, Cond.code yX4_workAndWriteDown cX4_workAndWriteDown 3 none, Cond.fieldLink RX4 156 "SafeParts$World" "waiting" "[LSafeParts$Waiting;", Cond.methodLink RX4 163 yX2_firstTime, Cond.methodLink RX4 166 yX2_firstValue, Cond.instanceMethod yX2_firstValue, Cond.selects RX2 yX2_firstValue yX2_firstValue, Cond.code yX2_firstValue cX2_firstValue 1 (some .int), Cond.methodLink RX4 250 yX1_add, Cond.instanceMethod yX1_add, Cond.selects RX1 yX1_add yX1_add, Cond.code yX1_add cX1_add 5 none, Cond.methodLink RX4 225 yX3_workOnFirst, Cond.instanceMethod yX3_workOnFirst, Cond.selects RX3 yX3_workOnFirst yX3_workOnFirst, Cond.code yX3_workOnFirst cX3_workOnFirst 5 none, Cond.constant RX3 100 (1000003), Cond.methodLink RX3 94 yX2_firstValue, Cond.methodLink RX3 97 yX2_removeFirst, Cond.instanceMethod yX2_removeFirst, Cond.selects RX2 yX2_removeFirst yX2_removeFirst, Cond.code yX2_removeFirst cX2_removeFirst 1 none]
def wsL_law_r14 : List Cond := [Cond.methodLink RX2 30 arraycopyName, Cond.native arraycopyName, Cond.static arraycopyName, Cond.initialized "java/lang/System", Cond.methodLink RX3 101 yX3_sendLetter, Cond.instanceMethod yX3_sendLetter, Cond.selects RX3 yX3_sendLetter yX3_sendLetter, Cond.code yX3_sendLetter cX3_sendLetter 7 none, Cond.fieldLink RX3 111 "SafeParts$Channels" "delay" "[I", Cond.fieldLink RX3 114 "SafeParts$Channels" "to" "[I", Cond.fieldLink RX3 117 "SafeParts$Channels" "letters" "[I", Cond.methodLink RX3 120 Lib.Math.max.name, Cond.static Lib.Math.max.name, Cond.initialized "java/lang/Math", Cond.code Lib.Math.max.name Lib.Math.max.code 2 (some .int), Cond.methodLink RX3 104 yX0_countFrom, Cond.instanceMethod yX0_countFrom, Cond.selects RX0 yX0_countFrom yX0_countFrom, Cond.code yX0_countFrom cX0_countFrom 4 (some .int), Cond.methodLink RX3 107 yX0_atPlaceFrom, Cond.instanceMethod yX0_atPlaceFrom, Cond.selects RX0 yX0_atPlaceFrom yX0_atPlaceFrom, Cond.code yX0_atPlaceFrom cX0_atPlaceFrom 5 (some .int), Cond.methodLink RX4 244 yX3_sendEmptyLetters]
def wsL_law_r15 : List Cond := [Cond.instanceMethod yX3_sendEmptyLetters, Cond.selects RX3 yX3_sendEmptyLetters yX3_sendEmptyLetters, Cond.code yX3_sendEmptyLetters cX3_sendEmptyLetters 5 none, Cond.methodLink RX3 125 Lib.Math.min.name, Cond.static Lib.Math.min.name, Cond.code Lib.Math.min.name Lib.Math.min.code 2 (some .int), Cond.fieldLink RX3 128 "SafeParts$Channels" "promise" "[I", Cond.fieldLink RX3 131 "SafeParts$Channels" "from" "[I", Cond.fieldLink RX3 137 "SafeParts$Channels" "empties" "[I", Cond.methodLink RX3 134 yX3_emptyMayGo, Cond.instanceMethod yX3_emptyMayGo, Cond.selects RX3 yX3_emptyMayGo yX3_emptyMayGo, Cond.code yX3_emptyMayGo cX3_emptyMayGo 2 (some .boolean), Cond.methodLink RX3 140 yX3_channelWaitedFor, Cond.instanceMethod yX3_channelWaitedFor, Cond.selects RX3 yX3_channelWaitedFor yX3_channelWaitedFor, Cond.code yX3_channelWaitedFor cX3_channelWaitedFor 3 (some .int), Cond.methodLink RL 40 yX5_run, Cond.instanceMethod yX5_run, Cond.selects RX5 yX5_run yX5_run, Cond.code yX5_run cX5_run 5 (some .int), Cond.constantLong RX5 129 (40), Cond.methodLink RX5 131 yX5_canRun, Cond.instanceMethod yX5_canRun]
def wsL_law_r16 : List Cond := [Cond.selects RX5 yX5_canRun yX5_canRun, Cond.code yX5_canRun cX5_canRun 1 (some .boolean), Cond.methodLink RX5 125 yX5_isRing, Cond.instanceMethod yX5_isRing, Cond.selects RX5 yX5_isRing yX5_isRing, Cond.code yX5_isRing cX5_isRing 3 (some .boolean), Cond.methodLink RX5 122 yX5_ringOf, Cond.instanceMethod yX5_ringOf, Cond.selects RX5 yX5_ringOf yX5_ringOf, Cond.code yX5_ringOf cX5_ringOf 6 (some .int), Cond.constant RX5 91 (99999999), Cond.methodLink RX5 134 yX5_rounds, Cond.instanceMethod yX5_rounds, Cond.selects RX5 yX5_rounds yX5_rounds, Cond.code yX5_rounds cX5_rounds 3 (some .boolean), Cond.methodLink RX5 108 yX5_may, Cond.instanceMethod yX5_may, Cond.selects RX5 yX5_may yX5_may, Cond.code yX5_may cX5_may 2 (some .boolean), Cond.methodLink RX5 88 yX5_firstOf, Cond.instanceMethod yX5_firstOf, Cond.selects RX5 yX5_firstOf yX5_firstOf, Cond.code yX5_firstOf cX5_firstOf 6 (some .int), Cond.methodLink RX5 85 yX5_isAhead]
def wsL_law_r17 : List Cond := [Cond.instanceMethod yX5_isAhead, Cond.selects RX5 yX5_isAhead yX5_isAhead, Cond.code yX5_isAhead cX5_isAhead 3 (some .boolean), Cond.methodLink RX5 95 yX5_firstTime, Cond.instanceMethod yX5_firstTime, Cond.selects RX5 yX5_firstTime yX5_firstTime, Cond.code yX5_firstTime cX5_firstTime 4 (some .int), Cond.methodLink RX5 98 yX5_safe, Cond.instanceMethod yX5_safe, Cond.selects RX5 yX5_safe yX5_safe, Cond.code yX5_safe cX5_safe 3 (some .int), Cond.methodLink RX5 92 yX5_leastTo, Cond.instanceMethod yX5_leastTo, Cond.selects RX5 yX5_leastTo yX5_leastTo, Cond.code yX5_leastTo cX5_leastTo 4 (some .int), Cond.methodLink RX5 111 yX5_works, Cond.instanceMethod yX5_works, Cond.selects RX5 yX5_works yX5_works, Cond.code yX5_works cX5_works 10 none, Cond.constant RX5 101 (1000003), Cond.methodLink RX5 102 yX5_outOf, Cond.instanceMethod yX5_outOf, Cond.selects RX5 yX5_outOf yX5_outOf, Cond.code yX5_outOf cX5_outOf 5 (some .int)]
def wsL_law_r18 : List Cond := [Cond.methodLink RX5 105 yX5_outAt, Cond.instanceMethod yX5_outAt, Cond.selects RX5 yX5_outAt yX5_outAt, Cond.code yX5_outAt cX5_outAt 7 (some .int), Cond.methodLink RX5 115 yX5_empties, Cond.instanceMethod yX5_empties, Cond.selects RX5 yX5_empties yX5_empties, Cond.code yX5_empties cX5_empties 11 (some .int), Cond.methodLink RL 41 yX4_letGo, Cond.instanceMethod yX4_letGo, Cond.selects RX4 yX4_letGo yX4_letGo, Cond.code yX4_letGo cX4_letGo 1 (some .int), Cond.methodLink RX4 117 yX3_partsThatMay, Cond.instanceMethod yX3_partsThatMay, Cond.selects RX3 yX3_partsThatMay yX3_partsThatMay, Cond.code yX3_partsThatMay cX3_partsThatMay 3 (some .int), Cond.methodLink RX3 86 yX3_mayWork, Cond.methodLink RX4 120 yX4_letEarliestGo, Cond.instanceMethod yX4_letEarliestGo, Cond.selects RX4 yX4_letEarliestGo yX4_letEarliestGo, Cond.code yX4_letEarliestGo cX4_letEarliestGo 4 (some .int), Cond.fieldLink RX4 129 "SafeParts$World" "timesLetGo" "I", Cond.methodLink RX4 132 yX3_leastTime, Cond.instanceMethod yX3_leastTime]
def wsL_law_r19 : List Cond := [Cond.selects RX3 yX3_leastTime yX3_leastTime, Cond.code yX3_leastTime cX3_leastTime 1 (some .int), Cond.methodLink RX3 72 yX3_partOfLeastTime, Cond.instanceMethod yX3_partOfLeastTime, Cond.selects RX3 yX3_partOfLeastTime yX3_partOfLeastTime, Cond.code yX3_partOfLeastTime cX3_partOfLeastTime 3 (some .int), Cond.methodLink RX4 247 yX0_raiseClocks, Cond.instanceMethod yX0_raiseClocks, Cond.selects RX0 yX0_raiseClocks yX0_raiseClocks, Cond.code yX0_raiseClocks cX0_raiseClocks 3 none, Cond.methodLink RX0 43 Lib.Math.max.name, Cond.methodLink RL 45 yX5_letGo, Cond.instanceMethod yX5_letGo, Cond.selects RX5 yX5_letGo yX5_letGo, Cond.code yX5_letGo cX5_letGo 1 (some .int), Cond.methodLink RX5 137 yX5_allMay, Cond.instanceMethod yX5_allMay, Cond.selects RX5 yX5_allMay yX5_allMay, Cond.code yX5_allMay cX5_allMay 3 (some .int), Cond.methodLink RX5 140 yX5_lets, Cond.instanceMethod yX5_lets, Cond.selects RX5 yX5_lets yX5_lets, Cond.code yX5_lets cX5_lets 3 (some .int), Cond.methodLink RX5 118 yX5_leastTime]
def wsL_law_r20 : List Cond := [Cond.instanceMethod yX5_leastTime, Cond.selects RX5 yX5_leastTime yX5_leastTime, Cond.code yX5_leastTime cX5_leastTime 4 (some .int), Cond.methodLink RL 46 yX4_finish, Cond.instanceMethod yX4_finish, Cond.selects RX4 yX4_finish yX4_finish, Cond.code yX4_finish cX4_finish 4 (some .int), Cond.methodLink RL 49 yX5_finish, Cond.instanceMethod yX5_finish, Cond.selects RX5 yX5_finish yX5_finish, Cond.code yX5_finish cX5_finish 5 (some .int), Cond.methodLink RL 50 yX4_told, Cond.instanceMethod yX4_told, Cond.selects RX4 yX4_told yX4_told, Cond.code yX4_told cX4_told 2 (some .int), Cond.fieldLink RX4 135 "SafeParts$Log" "size" "I", Cond.methodLink RL 53 yX5_told, Cond.instanceMethod yX5_told, Cond.selects RX5 yX5_told yX5_told, Cond.code yX5_told cX5_told 2 (some .int), Cond.methodLink RL 54 yX4_part, Cond.instanceMethod yX4_part, Cond.selects RX4 yX4_part yX4_part, Cond.code yX4_part cX4_part 3 (some .int)]
def wsL_law_r21 : List Cond := [Cond.fieldLink RX4 146 "SafeParts$World" "count" "[I", Cond.fieldLink RX4 149 "SafeParts$World" "sum" "[I", Cond.fieldLink RX4 160 "SafeParts$Waiting" "size" "I", Cond.methodLink RX4 152 yX3_safeOf, Cond.methodLink RX4 172 yX3_channelWaitedFor, Cond.methodLink RX4 175 yX0_countFrom, Cond.methodLink RX4 178 yX0_countTo, Cond.instanceMethod yX0_countTo, Cond.selects RX0 yX0_countTo yX0_countTo, Cond.code yX0_countTo cX0_countTo 4 (some .int), Cond.methodLink RL 57 yX5_part, Cond.instanceMethod yX5_part, Cond.selects RX5 yX5_part yX5_part, Cond.code yX5_part cX5_part 3 (some .int), Cond.methodLink RX5 143 yX5_firstValue, Cond.instanceMethod yX5_firstValue, Cond.selects RX5 yX5_firstValue yX5_firstValue, Cond.code yX5_firstValue cX5_firstValue 3 (some .int), Cond.methodLink RX5 146 yX5_waitsBy, Cond.instanceMethod yX5_waitsBy, Cond.selects RX5 yX5_waitsBy yX5_waitsBy, Cond.code yX5_waitsBy cX5_waitsBy 2 (some .int), Cond.methodLink RX5 149 yX5_waysTo, Cond.instanceMethod yX5_waysTo]
def wsL_law_r22 : List Cond := [Cond.selects RX5 yX5_waysTo yX5_waysTo, Cond.code yX5_waysTo cX5_waysTo 4 (some .int), Cond.methodLink RL 58 yX4_channelOf, Cond.instanceMethod yX4_channelOf, Cond.selects RX4 yX4_channelOf yX4_channelOf, Cond.code yX4_channelOf cX4_channelOf 4 (some .int), Cond.fieldLink RX4 181 "SafeParts$Channels" "from" "[I", Cond.fieldLink RX4 184 "SafeParts$Channels" "to" "[I", Cond.fieldLink RX4 187 "SafeParts$Channels" "promise" "[I", Cond.fieldLink RX4 190 "SafeParts$Channels" "delay" "[I", Cond.fieldLink RX4 193 "SafeParts$Channels" "clock" "[I", Cond.fieldLink RX4 196 "SafeParts$Channels" "letters" "[I", Cond.fieldLink RX4 199 "SafeParts$Channels" "empties" "[I", Cond.methodLink RL 61 yX5_channelOf, Cond.instanceMethod yX5_channelOf, Cond.selects RX5 yX5_channelOf yX5_channelOf, Cond.code yX5_channelOf cX5_channelOf 3 (some .int), Cond.methodLink RX5 152 yX5_isChannel, Cond.instanceMethod yX5_isChannel, Cond.selects RX5 yX5_isChannel yX5_isChannel, Cond.code yX5_isChannel cX5_isChannel 2 (some .boolean), Cond.methodLink RL 62 yX4_between, Cond.instanceMethod yX4_between, Cond.selects RX4 yX4_between yX4_between]
def wsL_law_r23 : List Cond := [Cond.code yX4_between cX4_between 3 (some .int), Cond.methodLink RL 65 yX5_between, Cond.instanceMethod yX5_between, Cond.selects RX5 yX5_between yX5_between, Cond.code yX5_between cX5_between 3 (some .int), Cond.methodLink RL 66 yX4_record, Cond.instanceMethod yX4_record, Cond.selects RX4 yX4_record yX4_record, Cond.code yX4_record cX4_record 3 (some .int), Cond.fieldLink RX4 202 "SafeParts$Log" "part" "[I", Cond.fieldLink RX4 205 "SafeParts$Log" "time" "[I", Cond.fieldLink RX4 208 "SafeParts$Log" "value" "[I", Cond.fieldLink RX4 211 "SafeParts$Log" "round" "[I", Cond.methodLink RL 69 yX5_record, Cond.instanceMethod yX5_record, Cond.selects RX5 yX5_record yX5_record, Cond.code yX5_record cX5_record 3 (some .int), Cond.constantLong RX5 155 (3), Cond.methodLink RL 70 yX4_ring, Cond.instanceMethod yX4_ring, Cond.selects RX4 yX4_ring yX4_ring, Cond.code yX4_ring cX4_ring 3 (some .int), Cond.constant RX4 217 (99999999), Cond.methodLink RX4 214 yX4_leastPromisesRound]
def wsL_law_r24 : List Cond := [Cond.instanceMethod yX4_leastPromisesRound, Cond.selects RX4 yX4_leastPromisesRound yX4_leastPromisesRound, Cond.code yX4_leastPromisesRound cX4_leastPromisesRound 8 (some .int), Cond.methodLink RX4 253 Lib.Math.min.name, Cond.methodLink RL 73 yX5_ring, Cond.instanceMethod yX5_ring, Cond.selects RX5 yX5_ring yX5_ring, Cond.code yX5_ring cX5_ring 2 (some .int), Cond.methodLink RL 74 yX4_waits, Cond.instanceMethod yX4_waits, Cond.selects RX4 yX4_waits yX4_waits, Cond.code yX4_waits cX4_waits 6 (some .int), Cond.methodLink RL 77 yX5_waits, Cond.instanceMethod yX5_waits, Cond.selects RX5 yX5_waits yX5_waits, Cond.code yX5_waits cX5_waits 6 (some .int), Cond.methodLink RX5 157 yX5_has, Cond.static yX5_has, Cond.code yX5_has cX5_has 2 (some .boolean), Cond.methodLink RL 78 yX4_inOrder, Cond.instanceMethod yX4_inOrder, Cond.selects RX4 yX4_inOrder yX4_inOrder, Cond.code yX4_inOrder cX4_inOrder 4 (some .int), Cond.methodLink RX4 218 yX3_copyFrom]
def wsL_law_r25 : List Cond := [Cond.instanceMethod yX3_copyFrom, Cond.selects RX3 yX3_copyFrom yX3_copyFrom, Cond.code yX3_copyFrom cX3_copyFrom 3 none, Cond.methodLink RX3 61 yX0_copyFrom, Cond.instanceMethod yX0_copyFrom, Cond.selects RX0 yX0_copyFrom yX0_copyFrom, Cond.code yX0_copyFrom cX0_copyFrom 2 none, Cond.methodLink RX0 37 arraycopyName, Cond.methodLink RX3 65 yX2_copyFrom, Cond.instanceMethod yX2_copyFrom, Cond.selects RX2 yX2_copyFrom yX2_copyFrom, Cond.code yX2_copyFrom cX2_copyFrom 2 none, Cond.methodLink RX4 222 yX3_partOfLeastTime, Cond.methodLink RL 81 yX5_inOrder, Cond.instanceMethod yX5_inOrder, Cond.selects RX5 yX5_inOrder yX5_inOrder, Cond.code yX5_inOrder cX5_inOrder 8 (some .int), Cond.methodLink RX5 160 yX5_copy, Cond.instanceMethod yX5_copy, Cond.selects RX5 yX5_copy yX5_copy, Cond.code yX5_copy cX5_copy 4 none, Cond.methodLink RL 82 yX4_keep, Cond.instanceMethod yX4_keep, Cond.selects RX4 yX4_keep yX4_keep]
def wsL_law_r26 : List Cond := [Cond.code yX4_keep cX4_keep 2 (some .int), Cond.methodLink RX4 228 yX4_isNoImage, Cond.static yX4_isNoImage, Cond.code yX4_isNoImage cX4_isNoImage 1 (some .boolean), Cond.methodLink RL 85 yX5_keep, Cond.instanceMethod yX5_keep, Cond.selects RX5 yX5_keep yX5_keep, Cond.code yX5_keep cX5_keep 2 (some .int), Cond.methodLink RL 86 yX4_goBack, Cond.instanceMethod yX4_goBack, Cond.selects RX4 yX4_goBack yX4_goBack, Cond.code yX4_goBack cX4_goBack 2 (some .int), Cond.methodLink RL 89 yX5_goBack, Cond.instanceMethod yX5_goBack, Cond.selects RX5 yX5_goBack yX5_goBack, Cond.code yX5_goBack cX5_goBack 2 (some .int)]
def wsL_law : List Cond := (wsL_law_r1 ++ (wsL_law_r2 ++ (wsL_law_r3 ++ (wsL_law_r4 ++ (wsL_law_r5 ++ (wsL_law_r6 ++ (wsL_law_r7 ++ (wsL_law_r8 ++ (wsL_law_r9 ++ (wsL_law_r10 ++ (wsL_law_r11 ++ (wsL_law_r12 ++ (wsL_law_r13 ++ (wsL_law_r14 ++ (wsL_law_r15 ++ (wsL_law_r16 ++ (wsL_law_r17 ++ (wsL_law_r18 ++ (wsL_law_r19 ++ (wsL_law_r20 ++ (wsL_law_r21 ++ (wsL_law_r22 ++ (wsL_law_r23 ++ (wsL_law_r24 ++ (wsL_law_r25 ++ wsL_law_r26))))))))))))))))))))))))) ++ wsX40 ++ wsX50 ++ wsX30 ++ wsX10 ++ wsX00 ++ wsX20 ++ ([] : List Cond)
theorem inlX0 : ∀ w ∈ wsX00, w ∈ wsL_law := fun _ h => List.mem_append_left _ (List.mem_append_left _ (List.mem_append_right _ h))
theorem inlX1 : ∀ w ∈ wsX10, w ∈ wsL_law := fun _ h => List.mem_append_left _ (List.mem_append_left _ (List.mem_append_left _ (List.mem_append_right _ h)))
theorem inlX2 : ∀ w ∈ wsX20, w ∈ wsL_law := fun _ h => List.mem_append_left _ (List.mem_append_right _ h)
theorem inlX3 : ∀ w ∈ wsX30, w ∈ wsL_law := fun _ h => List.mem_append_left _ (List.mem_append_left _ (List.mem_append_left _ (List.mem_append_left _ (List.mem_append_right _ h))))
theorem inlX4 : ∀ w ∈ wsX40, w ∈ wsL_law := fun _ h => List.mem_append_left _ (List.mem_append_left _ (List.mem_append_left _ (List.mem_append_left _ (List.mem_append_left _ (List.mem_append_left _ (List.mem_append_right _ h))))))
theorem inlX5 : ∀ w ∈ wsX50, w ∈ wsL_law := fun _ h => List.mem_append_left _ (List.mem_append_left _ (List.mem_append_left _ (List.mem_append_left _ (List.mem_append_left _ (List.mem_append_right _ h)))))
abbrev vwCl : List vw_C := [(RX0, TX0, 8), (RX1, TX1, 5), (RX2, TX2, 4), (RX3, TX3, 12), (RX4, TX4, 6), (RX5, TX5, 6)]
end
section
theorem dX0_init_0 : decode cX0_init 0 = .ok (.aload_n 0, 1) := by decide +kernel
theorem dX0_init_1 : decode cX0_init 1 = .ok (.invokespecial 3, 3) := by decide +kernel
theorem dX0_init_4 : decode cX0_init 4 = .ok (.aload_n 0, 1) := by decide +kernel
theorem dX0_init_5 : decode cX0_init 5 = .ok (.bipush 12, 2) := by decide +kernel
theorem dX0_init_7 : decode cX0_init 7 = .ok (.newarray .int, 2) := by decide +kernel
theorem dX0_init_9 : decode cX0_init 9 = .ok (.putfield 9, 3) := by decide +kernel
theorem dX0_init_12 : decode cX0_init 12 = .ok (.aload_n 0, 1) := by decide +kernel
theorem dX0_init_13 : decode cX0_init 13 = .ok (.bipush 12, 2) := by decide +kernel
theorem dX0_init_15 : decode cX0_init 15 = .ok (.newarray .int, 2) := by decide +kernel
theorem dX0_init_17 : decode cX0_init 17 = .ok (.putfield 15, 3) := by decide +kernel
theorem dX0_init_20 : decode cX0_init 20 = .ok (.aload_n 0, 1) := by decide +kernel
theorem dX0_init_21 : decode cX0_init 21 = .ok (.bipush 12, 2) := by decide +kernel
theorem dX0_init_23 : decode cX0_init 23 = .ok (.newarray .int, 2) := by decide +kernel
theorem dX0_init_25 : decode cX0_init 25 = .ok (.putfield 18, 3) := by decide +kernel
theorem dX0_init_28 : decode cX0_init 28 = .ok (.aload_n 0, 1) := by decide +kernel
theorem dX0_init_29 : decode cX0_init 29 = .ok (.bipush 12, 2) := by decide +kernel
theorem dX0_init_31 : decode cX0_init 31 = .ok (.newarray .int, 2) := by decide +kernel
theorem dX0_init_33 : decode cX0_init 33 = .ok (.putfield 21, 3) := by decide +kernel
theorem dX0_init_36 : decode cX0_init 36 = .ok (.aload_n 0, 1) := by decide +kernel
theorem dX0_init_37 : decode cX0_init 37 = .ok (.bipush 12, 2) := by decide +kernel
theorem dX0_init_39 : decode cX0_init 39 = .ok (.newarray .int, 2) := by decide +kernel
theorem dX0_init_41 : decode cX0_init 41 = .ok (.putfield 24, 3) := by decide +kernel
theorem dX0_init_44 : decode cX0_init 44 = .ok (.aload_n 0, 1) := by decide +kernel
theorem dX0_init_45 : decode cX0_init 45 = .ok (.bipush 12, 2) := by decide +kernel
theorem dX0_init_47 : decode cX0_init 47 = .ok (.newarray .int, 2) := by decide +kernel
theorem dX0_init_49 : decode cX0_init 49 = .ok (.putfield 27, 3) := by decide +kernel
theorem dX0_init_52 : decode cX0_init 52 = .ok (.aload_n 0, 1) := by decide +kernel
theorem dX0_init_53 : decode cX0_init 53 = .ok (.bipush 12, 2) := by decide +kernel
theorem dX0_init_55 : decode cX0_init 55 = .ok (.newarray .int, 2) := by decide +kernel
theorem dX0_init_57 : decode cX0_init 57 = .ok (.putfield 30, 3) := by decide +kernel
theorem dX0_init_60 : decode cX0_init 60 = .ok (.return_, 1) := by decide +kernel
theorem dX0_add_0 : decode cX0_add 0 = .ok (.aload_n 0, 1) := by decide +kernel
theorem dX0_add_1 : decode cX0_add 1 = .ok (.getfield 33, 3) := by decide +kernel
theorem dX0_add_4 : decode cX0_add 4 = .ok (.bipush 12, 2) := by decide +kernel
theorem dX0_add_6 : decode cX0_add 6 = .ok (.if_icmp .lt 5, 3) := by decide +kernel
theorem dX0_add_9 : decode cX0_add 9 = .ok (.iconst (-1), 1) := by decide +kernel
theorem dX0_add_10 : decode cX0_add 10 = .ok (.ireturn, 1) := by decide +kernel
theorem dX0_add_11 : decode cX0_add 11 = .ok (.aload_n 0, 1) := by decide +kernel
theorem dX0_add_12 : decode cX0_add 12 = .ok (.getfield 33, 3) := by decide +kernel
theorem dX0_add_15 : decode cX0_add 15 = .ok (.istore 5, 2) := by decide +kernel
theorem dX0_add_17 : decode cX0_add 17 = .ok (.aload_n 0, 1) := by decide +kernel
theorem dX0_add_18 : decode cX0_add 18 = .ok (.getfield 9, 3) := by decide +kernel
theorem dX0_add_21 : decode cX0_add 21 = .ok (.iload 5, 2) := by decide +kernel
theorem dX0_add_23 : decode cX0_add 23 = .ok (.iload_n 1, 1) := by decide +kernel
theorem dX0_add_24 : decode cX0_add 24 = .ok (.iastore, 1) := by decide +kernel
theorem dX0_add_25 : decode cX0_add 25 = .ok (.aload_n 0, 1) := by decide +kernel
theorem dX0_add_26 : decode cX0_add 26 = .ok (.getfield 15, 3) := by decide +kernel
theorem dX0_add_29 : decode cX0_add 29 = .ok (.iload 5, 2) := by decide +kernel
theorem dX0_add_31 : decode cX0_add 31 = .ok (.iload_n 2, 1) := by decide +kernel
theorem dX0_add_32 : decode cX0_add 32 = .ok (.iastore, 1) := by decide +kernel
theorem dX0_add_33 : decode cX0_add 33 = .ok (.aload_n 0, 1) := by decide +kernel
theorem dX0_add_34 : decode cX0_add 34 = .ok (.getfield 18, 3) := by decide +kernel
theorem dX0_add_37 : decode cX0_add 37 = .ok (.iload 5, 2) := by decide +kernel
theorem dX0_add_39 : decode cX0_add 39 = .ok (.iload_n 3, 1) := by decide +kernel
theorem dX0_add_40 : decode cX0_add 40 = .ok (.iastore, 1) := by decide +kernel
theorem dX0_add_41 : decode cX0_add 41 = .ok (.aload_n 0, 1) := by decide +kernel
theorem dX0_add_42 : decode cX0_add 42 = .ok (.getfield 21, 3) := by decide +kernel
theorem dX0_add_45 : decode cX0_add 45 = .ok (.iload 5, 2) := by decide +kernel
theorem dX0_add_47 : decode cX0_add 47 = .ok (.iload 4, 2) := by decide +kernel
theorem dX0_add_49 : decode cX0_add 49 = .ok (.iastore, 1) := by decide +kernel
theorem dX0_add_50 : decode cX0_add 50 = .ok (.aload_n 0, 1) := by decide +kernel
theorem dX0_add_51 : decode cX0_add 51 = .ok (.getfield 24, 3) := by decide +kernel
theorem dX0_add_54 : decode cX0_add 54 = .ok (.iload 5, 2) := by decide +kernel
theorem dX0_add_56 : decode cX0_add 56 = .ok (.iconst 0, 1) := by decide +kernel
theorem dX0_add_57 : decode cX0_add 57 = .ok (.iastore, 1) := by decide +kernel
theorem dX0_add_58 : decode cX0_add 58 = .ok (.aload_n 0, 1) := by decide +kernel
theorem dX0_add_59 : decode cX0_add 59 = .ok (.getfield 27, 3) := by decide +kernel
theorem dX0_add_62 : decode cX0_add 62 = .ok (.iload 5, 2) := by decide +kernel
theorem dX0_add_64 : decode cX0_add 64 = .ok (.iconst 0, 1) := by decide +kernel
theorem dX0_add_65 : decode cX0_add 65 = .ok (.iastore, 1) := by decide +kernel
theorem dX0_add_66 : decode cX0_add 66 = .ok (.aload_n 0, 1) := by decide +kernel
theorem dX0_add_67 : decode cX0_add 67 = .ok (.getfield 30, 3) := by decide +kernel
theorem dX0_add_70 : decode cX0_add 70 = .ok (.iload 5, 2) := by decide +kernel
theorem dX0_add_72 : decode cX0_add 72 = .ok (.iconst 0, 1) := by decide +kernel
theorem dX0_add_73 : decode cX0_add 73 = .ok (.iastore, 1) := by decide +kernel
theorem dX0_add_74 : decode cX0_add 74 = .ok (.aload_n 0, 1) := by decide +kernel
theorem dX0_add_75 : decode cX0_add 75 = .ok (.dup, 1) := by decide +kernel
theorem dX0_add_76 : decode cX0_add 76 = .ok (.getfield 33, 3) := by decide +kernel
theorem dX0_add_79 : decode cX0_add 79 = .ok (.iconst 1, 1) := by decide +kernel
theorem dX0_add_80 : decode cX0_add 80 = .ok (.iadd, 1) := by decide +kernel
theorem dX0_add_81 : decode cX0_add 81 = .ok (.putfield 33, 3) := by decide +kernel
theorem dX0_add_84 : decode cX0_add 84 = .ok (.iload 5, 2) := by decide +kernel
theorem dX0_add_86 : decode cX0_add 86 = .ok (.ireturn, 1) := by decide +kernel
theorem dX0_copyFrom_0 : decode cX0_copyFrom 0 = .ok (.aload_n 1, 1) := by decide +kernel
theorem dX0_copyFrom_1 : decode cX0_copyFrom 1 = .ok (.getfield 9, 3) := by decide +kernel
theorem dX0_copyFrom_4 : decode cX0_copyFrom 4 = .ok (.iconst 0, 1) := by decide +kernel
theorem dX0_copyFrom_5 : decode cX0_copyFrom 5 = .ok (.aload_n 0, 1) := by decide +kernel
theorem dX0_copyFrom_6 : decode cX0_copyFrom 6 = .ok (.getfield 9, 3) := by decide +kernel
theorem dX0_copyFrom_9 : decode cX0_copyFrom 9 = .ok (.iconst 0, 1) := by decide +kernel
theorem dX0_copyFrom_10 : decode cX0_copyFrom 10 = .ok (.bipush 12, 2) := by decide +kernel
theorem dX0_copyFrom_12 : decode cX0_copyFrom 12 = .ok (.invokestatic 37, 3) := by decide +kernel
theorem dX0_copyFrom_15 : decode cX0_copyFrom 15 = .ok (.aload_n 1, 1) := by decide +kernel
theorem dX0_copyFrom_16 : decode cX0_copyFrom 16 = .ok (.getfield 15, 3) := by decide +kernel
theorem dX0_copyFrom_19 : decode cX0_copyFrom 19 = .ok (.iconst 0, 1) := by decide +kernel
theorem dX0_copyFrom_20 : decode cX0_copyFrom 20 = .ok (.aload_n 0, 1) := by decide +kernel
theorem dX0_copyFrom_21 : decode cX0_copyFrom 21 = .ok (.getfield 15, 3) := by decide +kernel
theorem dX0_copyFrom_24 : decode cX0_copyFrom 24 = .ok (.iconst 0, 1) := by decide +kernel
theorem dX0_copyFrom_25 : decode cX0_copyFrom 25 = .ok (.bipush 12, 2) := by decide +kernel
theorem dX0_copyFrom_27 : decode cX0_copyFrom 27 = .ok (.invokestatic 37, 3) := by decide +kernel
theorem dX0_copyFrom_30 : decode cX0_copyFrom 30 = .ok (.aload_n 1, 1) := by decide +kernel
theorem dX0_copyFrom_31 : decode cX0_copyFrom 31 = .ok (.getfield 18, 3) := by decide +kernel
theorem dX0_copyFrom_34 : decode cX0_copyFrom 34 = .ok (.iconst 0, 1) := by decide +kernel
theorem dX0_copyFrom_35 : decode cX0_copyFrom 35 = .ok (.aload_n 0, 1) := by decide +kernel
theorem dX0_copyFrom_36 : decode cX0_copyFrom 36 = .ok (.getfield 18, 3) := by decide +kernel
theorem dX0_copyFrom_39 : decode cX0_copyFrom 39 = .ok (.iconst 0, 1) := by decide +kernel
theorem dX0_copyFrom_40 : decode cX0_copyFrom 40 = .ok (.bipush 12, 2) := by decide +kernel
theorem dX0_copyFrom_42 : decode cX0_copyFrom 42 = .ok (.invokestatic 37, 3) := by decide +kernel
theorem dX0_copyFrom_45 : decode cX0_copyFrom 45 = .ok (.aload_n 1, 1) := by decide +kernel
theorem dX0_copyFrom_46 : decode cX0_copyFrom 46 = .ok (.getfield 21, 3) := by decide +kernel
theorem dX0_copyFrom_49 : decode cX0_copyFrom 49 = .ok (.iconst 0, 1) := by decide +kernel
theorem dX0_copyFrom_50 : decode cX0_copyFrom 50 = .ok (.aload_n 0, 1) := by decide +kernel
theorem dX0_copyFrom_51 : decode cX0_copyFrom 51 = .ok (.getfield 21, 3) := by decide +kernel
theorem dX0_copyFrom_54 : decode cX0_copyFrom 54 = .ok (.iconst 0, 1) := by decide +kernel
theorem dX0_copyFrom_55 : decode cX0_copyFrom 55 = .ok (.bipush 12, 2) := by decide +kernel
theorem dX0_copyFrom_57 : decode cX0_copyFrom 57 = .ok (.invokestatic 37, 3) := by decide +kernel
theorem dX0_copyFrom_60 : decode cX0_copyFrom 60 = .ok (.aload_n 1, 1) := by decide +kernel
theorem dX0_copyFrom_61 : decode cX0_copyFrom 61 = .ok (.getfield 24, 3) := by decide +kernel
theorem dX0_copyFrom_64 : decode cX0_copyFrom 64 = .ok (.iconst 0, 1) := by decide +kernel
theorem dX0_copyFrom_65 : decode cX0_copyFrom 65 = .ok (.aload_n 0, 1) := by decide +kernel
theorem dX0_copyFrom_66 : decode cX0_copyFrom 66 = .ok (.getfield 24, 3) := by decide +kernel
theorem dX0_copyFrom_69 : decode cX0_copyFrom 69 = .ok (.iconst 0, 1) := by decide +kernel
theorem dX0_copyFrom_70 : decode cX0_copyFrom 70 = .ok (.bipush 12, 2) := by decide +kernel
theorem dX0_copyFrom_72 : decode cX0_copyFrom 72 = .ok (.invokestatic 37, 3) := by decide +kernel
theorem dX0_copyFrom_75 : decode cX0_copyFrom 75 = .ok (.aload_n 1, 1) := by decide +kernel
theorem dX0_copyFrom_76 : decode cX0_copyFrom 76 = .ok (.getfield 27, 3) := by decide +kernel
theorem dX0_copyFrom_79 : decode cX0_copyFrom 79 = .ok (.iconst 0, 1) := by decide +kernel
theorem dX0_copyFrom_80 : decode cX0_copyFrom 80 = .ok (.aload_n 0, 1) := by decide +kernel
theorem dX0_copyFrom_81 : decode cX0_copyFrom 81 = .ok (.getfield 27, 3) := by decide +kernel
theorem dX0_copyFrom_84 : decode cX0_copyFrom 84 = .ok (.iconst 0, 1) := by decide +kernel
theorem dX0_copyFrom_85 : decode cX0_copyFrom 85 = .ok (.bipush 12, 2) := by decide +kernel
theorem dX0_copyFrom_87 : decode cX0_copyFrom 87 = .ok (.invokestatic 37, 3) := by decide +kernel
theorem dX0_copyFrom_90 : decode cX0_copyFrom 90 = .ok (.aload_n 1, 1) := by decide +kernel
theorem dX0_copyFrom_91 : decode cX0_copyFrom 91 = .ok (.getfield 30, 3) := by decide +kernel
theorem dX0_copyFrom_94 : decode cX0_copyFrom 94 = .ok (.iconst 0, 1) := by decide +kernel
theorem dX0_copyFrom_95 : decode cX0_copyFrom 95 = .ok (.aload_n 0, 1) := by decide +kernel
theorem dX0_copyFrom_96 : decode cX0_copyFrom 96 = .ok (.getfield 30, 3) := by decide +kernel
theorem dX0_copyFrom_99 : decode cX0_copyFrom 99 = .ok (.iconst 0, 1) := by decide +kernel
theorem dX0_copyFrom_100 : decode cX0_copyFrom 100 = .ok (.bipush 12, 2) := by decide +kernel
theorem dX0_copyFrom_102 : decode cX0_copyFrom 102 = .ok (.invokestatic 37, 3) := by decide +kernel
theorem dX0_copyFrom_105 : decode cX0_copyFrom 105 = .ok (.aload_n 0, 1) := by decide +kernel
theorem dX0_copyFrom_106 : decode cX0_copyFrom 106 = .ok (.aload_n 1, 1) := by decide +kernel
theorem dX0_copyFrom_107 : decode cX0_copyFrom 107 = .ok (.getfield 33, 3) := by decide +kernel
theorem dX0_copyFrom_110 : decode cX0_copyFrom 110 = .ok (.putfield 33, 3) := by decide +kernel
theorem dX0_copyFrom_113 : decode cX0_copyFrom 113 = .ok (.return_, 1) := by decide +kernel
theorem dX0_find_0 : decode cX0_find 0 = .ok (.iconst 0, 1) := by decide +kernel
theorem dX0_find_1 : decode cX0_find 1 = .ok (.istore_n 3, 1) := by decide +kernel
theorem dX0_find_2 : decode cX0_find 2 = .ok (.iload_n 3, 1) := by decide +kernel
theorem dX0_find_3 : decode cX0_find 3 = .ok (.aload_n 0, 1) := by decide +kernel
theorem dX0_find_4 : decode cX0_find 4 = .ok (.getfield 33, 3) := by decide +kernel
theorem dX0_find_7 : decode cX0_find 7 = .ok (.if_icmp .ge 31, 3) := by decide +kernel
theorem dX0_find_10 : decode cX0_find 10 = .ok (.aload_n 0, 1) := by decide +kernel
theorem dX0_find_11 : decode cX0_find 11 = .ok (.getfield 9, 3) := by decide +kernel
theorem dX0_find_14 : decode cX0_find 14 = .ok (.iload_n 3, 1) := by decide +kernel
theorem dX0_find_15 : decode cX0_find 15 = .ok (.iaload, 1) := by decide +kernel
theorem dX0_find_16 : decode cX0_find 16 = .ok (.iload_n 1, 1) := by decide +kernel
theorem dX0_find_17 : decode cX0_find 17 = .ok (.if_icmp .ne 15, 3) := by decide +kernel
theorem dX0_find_20 : decode cX0_find 20 = .ok (.aload_n 0, 1) := by decide +kernel
theorem dX0_find_21 : decode cX0_find 21 = .ok (.getfield 15, 3) := by decide +kernel
theorem dX0_find_24 : decode cX0_find 24 = .ok (.iload_n 3, 1) := by decide +kernel
theorem dX0_find_25 : decode cX0_find 25 = .ok (.iaload, 1) := by decide +kernel
theorem dX0_find_26 : decode cX0_find 26 = .ok (.iload_n 2, 1) := by decide +kernel
theorem dX0_find_27 : decode cX0_find 27 = .ok (.if_icmp .ne 5, 3) := by decide +kernel
theorem dX0_find_30 : decode cX0_find 30 = .ok (.iload_n 3, 1) := by decide +kernel
theorem dX0_find_31 : decode cX0_find 31 = .ok (.ireturn, 1) := by decide +kernel
theorem dX0_find_32 : decode cX0_find 32 = .ok (.iinc 3 1, 3) := by decide +kernel
theorem dX0_find_35 : decode cX0_find 35 = .ok (.goto (-33), 3) := by decide +kernel
theorem dX0_find_38 : decode cX0_find 38 = .ok (.iconst (-1), 1) := by decide +kernel
theorem dX0_find_39 : decode cX0_find 39 = .ok (.ireturn, 1) := by decide +kernel
theorem dX0_countFrom_0 : decode cX0_countFrom 0 = .ok (.iconst 0, 1) := by decide +kernel
theorem dX0_countFrom_1 : decode cX0_countFrom 1 = .ok (.istore_n 2, 1) := by decide +kernel
theorem dX0_countFrom_2 : decode cX0_countFrom 2 = .ok (.iconst 0, 1) := by decide +kernel
theorem dX0_countFrom_3 : decode cX0_countFrom 3 = .ok (.istore_n 3, 1) := by decide +kernel
theorem dX0_countFrom_4 : decode cX0_countFrom 4 = .ok (.iload_n 3, 1) := by decide +kernel
theorem dX0_countFrom_5 : decode cX0_countFrom 5 = .ok (.aload_n 0, 1) := by decide +kernel
theorem dX0_countFrom_6 : decode cX0_countFrom 6 = .ok (.getfield 33, 3) := by decide +kernel
theorem dX0_countFrom_9 : decode cX0_countFrom 9 = .ok (.if_icmp .ge 22, 3) := by decide +kernel
theorem dX0_countFrom_12 : decode cX0_countFrom 12 = .ok (.aload_n 0, 1) := by decide +kernel
theorem dX0_countFrom_13 : decode cX0_countFrom 13 = .ok (.getfield 9, 3) := by decide +kernel
theorem dX0_countFrom_16 : decode cX0_countFrom 16 = .ok (.iload_n 3, 1) := by decide +kernel
theorem dX0_countFrom_17 : decode cX0_countFrom 17 = .ok (.iaload, 1) := by decide +kernel
theorem dX0_countFrom_18 : decode cX0_countFrom 18 = .ok (.iload_n 1, 1) := by decide +kernel
theorem dX0_countFrom_19 : decode cX0_countFrom 19 = .ok (.if_icmp .ne 6, 3) := by decide +kernel
theorem dX0_countFrom_22 : decode cX0_countFrom 22 = .ok (.iinc 2 1, 3) := by decide +kernel
theorem dX0_countFrom_25 : decode cX0_countFrom 25 = .ok (.iinc 3 1, 3) := by decide +kernel
theorem dX0_countFrom_28 : decode cX0_countFrom 28 = .ok (.goto (-24), 3) := by decide +kernel
theorem dX0_countFrom_31 : decode cX0_countFrom 31 = .ok (.iload_n 2, 1) := by decide +kernel
theorem dX0_countFrom_32 : decode cX0_countFrom 32 = .ok (.ireturn, 1) := by decide +kernel
theorem dX0_countTo_0 : decode cX0_countTo 0 = .ok (.iconst 0, 1) := by decide +kernel
theorem dX0_countTo_1 : decode cX0_countTo 1 = .ok (.istore_n 2, 1) := by decide +kernel
theorem dX0_countTo_2 : decode cX0_countTo 2 = .ok (.iconst 0, 1) := by decide +kernel
theorem dX0_countTo_3 : decode cX0_countTo 3 = .ok (.istore_n 3, 1) := by decide +kernel
theorem dX0_countTo_4 : decode cX0_countTo 4 = .ok (.iload_n 3, 1) := by decide +kernel
theorem dX0_countTo_5 : decode cX0_countTo 5 = .ok (.aload_n 0, 1) := by decide +kernel
theorem dX0_countTo_6 : decode cX0_countTo 6 = .ok (.getfield 33, 3) := by decide +kernel
theorem dX0_countTo_9 : decode cX0_countTo 9 = .ok (.if_icmp .ge 22, 3) := by decide +kernel
theorem dX0_countTo_12 : decode cX0_countTo 12 = .ok (.aload_n 0, 1) := by decide +kernel
theorem dX0_countTo_13 : decode cX0_countTo 13 = .ok (.getfield 15, 3) := by decide +kernel
theorem dX0_countTo_16 : decode cX0_countTo 16 = .ok (.iload_n 3, 1) := by decide +kernel
theorem dX0_countTo_17 : decode cX0_countTo 17 = .ok (.iaload, 1) := by decide +kernel
theorem dX0_countTo_18 : decode cX0_countTo 18 = .ok (.iload_n 1, 1) := by decide +kernel
theorem dX0_countTo_19 : decode cX0_countTo 19 = .ok (.if_icmp .ne 6, 3) := by decide +kernel
theorem dX0_countTo_22 : decode cX0_countTo 22 = .ok (.iinc 2 1, 3) := by decide +kernel
theorem dX0_countTo_25 : decode cX0_countTo 25 = .ok (.iinc 3 1, 3) := by decide +kernel
theorem dX0_countTo_28 : decode cX0_countTo 28 = .ok (.goto (-24), 3) := by decide +kernel
theorem dX0_countTo_31 : decode cX0_countTo 31 = .ok (.iload_n 2, 1) := by decide +kernel
theorem dX0_countTo_32 : decode cX0_countTo 32 = .ok (.ireturn, 1) := by decide +kernel
theorem dX0_atPlaceFrom_0 : decode cX0_atPlaceFrom 0 = .ok (.iconst 0, 1) := by decide +kernel
theorem dX0_atPlaceFrom_1 : decode cX0_atPlaceFrom 1 = .ok (.istore_n 3, 1) := by decide +kernel
theorem dX0_atPlaceFrom_2 : decode cX0_atPlaceFrom 2 = .ok (.iconst 0, 1) := by decide +kernel
theorem dX0_atPlaceFrom_3 : decode cX0_atPlaceFrom 3 = .ok (.istore 4, 2) := by decide +kernel
theorem dX0_atPlaceFrom_5 : decode cX0_atPlaceFrom 5 = .ok (.iload 4, 2) := by decide +kernel
theorem dX0_atPlaceFrom_7 : decode cX0_atPlaceFrom 7 = .ok (.aload_n 0, 1) := by decide +kernel
theorem dX0_atPlaceFrom_8 : decode cX0_atPlaceFrom 8 = .ok (.getfield 33, 3) := by decide +kernel
theorem dX0_atPlaceFrom_11 : decode cX0_atPlaceFrom 11 = .ok (.if_icmp .ge 31, 3) := by decide +kernel
theorem dX0_atPlaceFrom_14 : decode cX0_atPlaceFrom 14 = .ok (.aload_n 0, 1) := by decide +kernel
theorem dX0_atPlaceFrom_15 : decode cX0_atPlaceFrom 15 = .ok (.getfield 9, 3) := by decide +kernel
theorem dX0_atPlaceFrom_18 : decode cX0_atPlaceFrom 18 = .ok (.iload 4, 2) := by decide +kernel
theorem dX0_atPlaceFrom_20 : decode cX0_atPlaceFrom 20 = .ok (.iaload, 1) := by decide +kernel
theorem dX0_atPlaceFrom_21 : decode cX0_atPlaceFrom 21 = .ok (.iload_n 1, 1) := by decide +kernel
theorem dX0_atPlaceFrom_22 : decode cX0_atPlaceFrom 22 = .ok (.if_icmp .ne 14, 3) := by decide +kernel
theorem dX0_atPlaceFrom_25 : decode cX0_atPlaceFrom 25 = .ok (.iload_n 3, 1) := by decide +kernel
theorem dX0_atPlaceFrom_26 : decode cX0_atPlaceFrom 26 = .ok (.iload_n 2, 1) := by decide +kernel
theorem dX0_atPlaceFrom_27 : decode cX0_atPlaceFrom 27 = .ok (.if_icmp .ne 6, 3) := by decide +kernel
theorem dX0_atPlaceFrom_30 : decode cX0_atPlaceFrom 30 = .ok (.iload 4, 2) := by decide +kernel
theorem dX0_atPlaceFrom_32 : decode cX0_atPlaceFrom 32 = .ok (.ireturn, 1) := by decide +kernel
theorem dX0_atPlaceFrom_33 : decode cX0_atPlaceFrom 33 = .ok (.iinc 3 1, 3) := by decide +kernel
theorem dX0_atPlaceFrom_36 : decode cX0_atPlaceFrom 36 = .ok (.iinc 4 1, 3) := by decide +kernel
theorem dX0_atPlaceFrom_39 : decode cX0_atPlaceFrom 39 = .ok (.goto (-34), 3) := by decide +kernel
theorem dX0_atPlaceFrom_42 : decode cX0_atPlaceFrom 42 = .ok (.iconst (-1), 1) := by decide +kernel
theorem dX0_atPlaceFrom_43 : decode cX0_atPlaceFrom 43 = .ok (.ireturn, 1) := by decide +kernel
theorem dX0_ofLeastClockTo_0 : decode cX0_ofLeastClockTo 0 = .ok (.iconst (-1), 1) := by decide +kernel
theorem dX0_ofLeastClockTo_1 : decode cX0_ofLeastClockTo 1 = .ok (.istore_n 2, 1) := by decide +kernel
theorem dX0_ofLeastClockTo_2 : decode cX0_ofLeastClockTo 2 = .ok (.iconst 0, 1) := by decide +kernel
theorem dX0_ofLeastClockTo_3 : decode cX0_ofLeastClockTo 3 = .ok (.istore_n 3, 1) := by decide +kernel
theorem dX0_ofLeastClockTo_4 : decode cX0_ofLeastClockTo 4 = .ok (.iload_n 3, 1) := by decide +kernel
theorem dX0_ofLeastClockTo_5 : decode cX0_ofLeastClockTo 5 = .ok (.aload_n 0, 1) := by decide +kernel
theorem dX0_ofLeastClockTo_6 : decode cX0_ofLeastClockTo 6 = .ok (.getfield 33, 3) := by decide +kernel
theorem dX0_ofLeastClockTo_9 : decode cX0_ofLeastClockTo 9 = .ok (.if_icmp .ge 41, 3) := by decide +kernel
theorem dX0_ofLeastClockTo_12 : decode cX0_ofLeastClockTo 12 = .ok (.aload_n 0, 1) := by decide +kernel
theorem dX0_ofLeastClockTo_13 : decode cX0_ofLeastClockTo 13 = .ok (.getfield 15, 3) := by decide +kernel
theorem dX0_ofLeastClockTo_16 : decode cX0_ofLeastClockTo 16 = .ok (.iload_n 3, 1) := by decide +kernel
theorem dX0_ofLeastClockTo_17 : decode cX0_ofLeastClockTo 17 = .ok (.iaload, 1) := by decide +kernel
theorem dX0_ofLeastClockTo_18 : decode cX0_ofLeastClockTo 18 = .ok (.iload_n 1, 1) := by decide +kernel
theorem dX0_ofLeastClockTo_19 : decode cX0_ofLeastClockTo 19 = .ok (.if_icmp .ne 25, 3) := by decide +kernel
theorem dX0_ofLeastClockTo_22 : decode cX0_ofLeastClockTo 22 = .ok (.iload_n 2, 1) := by decide +kernel
theorem dX0_ofLeastClockTo_23 : decode cX0_ofLeastClockTo 23 = .ok (.iconst (-1), 1) := by decide +kernel
theorem dX0_ofLeastClockTo_24 : decode cX0_ofLeastClockTo 24 = .ok (.if_icmp .eq 18, 3) := by decide +kernel
theorem dX0_ofLeastClockTo_27 : decode cX0_ofLeastClockTo 27 = .ok (.aload_n 0, 1) := by decide +kernel
theorem dX0_ofLeastClockTo_28 : decode cX0_ofLeastClockTo 28 = .ok (.getfield 24, 3) := by decide +kernel
theorem dX0_ofLeastClockTo_31 : decode cX0_ofLeastClockTo 31 = .ok (.iload_n 3, 1) := by decide +kernel
theorem dX0_ofLeastClockTo_32 : decode cX0_ofLeastClockTo 32 = .ok (.iaload, 1) := by decide +kernel
theorem dX0_ofLeastClockTo_33 : decode cX0_ofLeastClockTo 33 = .ok (.aload_n 0, 1) := by decide +kernel
theorem dX0_ofLeastClockTo_34 : decode cX0_ofLeastClockTo 34 = .ok (.getfield 24, 3) := by decide +kernel
theorem dX0_ofLeastClockTo_37 : decode cX0_ofLeastClockTo 37 = .ok (.iload_n 2, 1) := by decide +kernel
theorem dX0_ofLeastClockTo_38 : decode cX0_ofLeastClockTo 38 = .ok (.iaload, 1) := by decide +kernel
theorem dX0_ofLeastClockTo_39 : decode cX0_ofLeastClockTo 39 = .ok (.if_icmp .ge 5, 3) := by decide +kernel
theorem dX0_ofLeastClockTo_42 : decode cX0_ofLeastClockTo 42 = .ok (.iload_n 3, 1) := by decide +kernel
theorem dX0_ofLeastClockTo_43 : decode cX0_ofLeastClockTo 43 = .ok (.istore_n 2, 1) := by decide +kernel
theorem dX0_ofLeastClockTo_44 : decode cX0_ofLeastClockTo 44 = .ok (.iinc 3 1, 3) := by decide +kernel
theorem dX0_ofLeastClockTo_47 : decode cX0_ofLeastClockTo 47 = .ok (.goto (-43), 3) := by decide +kernel
theorem dX0_ofLeastClockTo_50 : decode cX0_ofLeastClockTo 50 = .ok (.iload_n 2, 1) := by decide +kernel
theorem dX0_ofLeastClockTo_51 : decode cX0_ofLeastClockTo 51 = .ok (.ireturn, 1) := by decide +kernel
theorem dX0_promiseMoreThan_0 : decode cX0_promiseMoreThan 0 = .ok (.iconst 0, 1) := by decide +kernel
theorem dX0_promiseMoreThan_1 : decode cX0_promiseMoreThan 1 = .ok (.istore_n 3, 1) := by decide +kernel
theorem dX0_promiseMoreThan_2 : decode cX0_promiseMoreThan 2 = .ok (.iload_n 3, 1) := by decide +kernel
theorem dX0_promiseMoreThan_3 : decode cX0_promiseMoreThan 3 = .ok (.aload_n 0, 1) := by decide +kernel
theorem dX0_promiseMoreThan_4 : decode cX0_promiseMoreThan 4 = .ok (.getfield 33, 3) := by decide +kernel
theorem dX0_promiseMoreThan_7 : decode cX0_promiseMoreThan 7 = .ok (.if_icmp .ge 38, 3) := by decide +kernel
theorem dX0_promiseMoreThan_10 : decode cX0_promiseMoreThan 10 = .ok (.aload_n 0, 1) := by decide +kernel
theorem dX0_promiseMoreThan_11 : decode cX0_promiseMoreThan 11 = .ok (.getfield 9, 3) := by decide +kernel
theorem dX0_promiseMoreThan_14 : decode cX0_promiseMoreThan 14 = .ok (.iload_n 3, 1) := by decide +kernel
theorem dX0_promiseMoreThan_15 : decode cX0_promiseMoreThan 15 = .ok (.iaload, 1) := by decide +kernel
theorem dX0_promiseMoreThan_16 : decode cX0_promiseMoreThan 16 = .ok (.iload_n 1, 1) := by decide +kernel
theorem dX0_promiseMoreThan_17 : decode cX0_promiseMoreThan 17 = .ok (.if_icmp .ne 22, 3) := by decide +kernel
theorem dX0_promiseMoreThan_20 : decode cX0_promiseMoreThan 20 = .ok (.aload_n 0, 1) := by decide +kernel
theorem dX0_promiseMoreThan_21 : decode cX0_promiseMoreThan 21 = .ok (.getfield 24, 3) := by decide +kernel
theorem dX0_promiseMoreThan_24 : decode cX0_promiseMoreThan 24 = .ok (.iload_n 3, 1) := by decide +kernel
theorem dX0_promiseMoreThan_25 : decode cX0_promiseMoreThan 25 = .ok (.iaload, 1) := by decide +kernel
theorem dX0_promiseMoreThan_26 : decode cX0_promiseMoreThan 26 = .ok (.iload_n 2, 1) := by decide +kernel
theorem dX0_promiseMoreThan_27 : decode cX0_promiseMoreThan 27 = .ok (.aload_n 0, 1) := by decide +kernel
theorem dX0_promiseMoreThan_28 : decode cX0_promiseMoreThan 28 = .ok (.getfield 18, 3) := by decide +kernel
theorem dX0_promiseMoreThan_31 : decode cX0_promiseMoreThan 31 = .ok (.iload_n 3, 1) := by decide +kernel
theorem dX0_promiseMoreThan_32 : decode cX0_promiseMoreThan 32 = .ok (.iaload, 1) := by decide +kernel
theorem dX0_promiseMoreThan_33 : decode cX0_promiseMoreThan 33 = .ok (.iadd, 1) := by decide +kernel
theorem dX0_promiseMoreThan_34 : decode cX0_promiseMoreThan 34 = .ok (.if_icmp .le 5, 3) := by decide +kernel
theorem dX0_promiseMoreThan_37 : decode cX0_promiseMoreThan 37 = .ok (.iconst 1, 1) := by decide +kernel
theorem dX0_promiseMoreThan_38 : decode cX0_promiseMoreThan 38 = .ok (.ireturn, 1) := by decide +kernel
theorem dX0_promiseMoreThan_39 : decode cX0_promiseMoreThan 39 = .ok (.iinc 3 1, 3) := by decide +kernel
theorem dX0_promiseMoreThan_42 : decode cX0_promiseMoreThan 42 = .ok (.goto (-40), 3) := by decide +kernel
theorem dX0_promiseMoreThan_45 : decode cX0_promiseMoreThan 45 = .ok (.iconst 0, 1) := by decide +kernel
theorem dX0_promiseMoreThan_46 : decode cX0_promiseMoreThan 46 = .ok (.ireturn, 1) := by decide +kernel
theorem dX0_raiseClocks_0 : decode cX0_raiseClocks 0 = .ok (.iconst 0, 1) := by decide +kernel
theorem dX0_raiseClocks_1 : decode cX0_raiseClocks 1 = .ok (.istore_n 2, 1) := by decide +kernel
theorem dX0_raiseClocks_2 : decode cX0_raiseClocks 2 = .ok (.iload_n 2, 1) := by decide +kernel
theorem dX0_raiseClocks_3 : decode cX0_raiseClocks 3 = .ok (.aload_n 0, 1) := by decide +kernel
theorem dX0_raiseClocks_4 : decode cX0_raiseClocks 4 = .ok (.getfield 33, 3) := by decide +kernel
theorem dX0_raiseClocks_7 : decode cX0_raiseClocks 7 = .ok (.if_icmp .ge 25, 3) := by decide +kernel
theorem dX0_raiseClocks_10 : decode cX0_raiseClocks 10 = .ok (.aload_n 0, 1) := by decide +kernel
theorem dX0_raiseClocks_11 : decode cX0_raiseClocks 11 = .ok (.getfield 24, 3) := by decide +kernel
theorem dX0_raiseClocks_14 : decode cX0_raiseClocks 14 = .ok (.iload_n 2, 1) := by decide +kernel
theorem dX0_raiseClocks_15 : decode cX0_raiseClocks 15 = .ok (.aload_n 0, 1) := by decide +kernel
theorem dX0_raiseClocks_16 : decode cX0_raiseClocks 16 = .ok (.getfield 24, 3) := by decide +kernel
theorem dX0_raiseClocks_19 : decode cX0_raiseClocks 19 = .ok (.iload_n 2, 1) := by decide +kernel
theorem dX0_raiseClocks_20 : decode cX0_raiseClocks 20 = .ok (.iaload, 1) := by decide +kernel
theorem dX0_raiseClocks_21 : decode cX0_raiseClocks 21 = .ok (.iload_n 1, 1) := by decide +kernel
theorem dX0_raiseClocks_22 : decode cX0_raiseClocks 22 = .ok (.invokestatic 43, 3) := by decide +kernel
theorem dX0_raiseClocks_25 : decode cX0_raiseClocks 25 = .ok (.iastore, 1) := by decide +kernel
theorem dX0_raiseClocks_26 : decode cX0_raiseClocks 26 = .ok (.iinc 2 1, 3) := by decide +kernel
theorem dX0_raiseClocks_29 : decode cX0_raiseClocks 29 = .ok (.goto (-27), 3) := by decide +kernel
theorem dX0_raiseClocks_32 : decode cX0_raiseClocks 32 = .ok (.return_, 1) := by decide +kernel
theorem dX0_hasRingWithoutPromise_0 : decode cX0_hasRingWithoutPromise 0 = .ok (.iconst 0, 1) := by decide +kernel
theorem dX0_hasRingWithoutPromise_1 : decode cX0_hasRingWithoutPromise 1 = .ok (.istore_n 2, 1) := by decide +kernel
theorem dX0_hasRingWithoutPromise_2 : decode cX0_hasRingWithoutPromise 2 = .ok (.iload_n 2, 1) := by decide +kernel
theorem dX0_hasRingWithoutPromise_3 : decode cX0_hasRingWithoutPromise 3 = .ok (.iload_n 1, 1) := by decide +kernel
theorem dX0_hasRingWithoutPromise_4 : decode cX0_hasRingWithoutPromise 4 = .ok (.if_icmp .ge 24, 3) := by decide +kernel
theorem dX0_hasRingWithoutPromise_7 : decode cX0_hasRingWithoutPromise 7 = .ok (.aload_n 0, 1) := by decide +kernel
theorem dX0_hasRingWithoutPromise_8 : decode cX0_hasRingWithoutPromise 8 = .ok (.iload_n 2, 1) := by decide +kernel
theorem dX0_hasRingWithoutPromise_9 : decode cX0_hasRingWithoutPromise 9 = .ok (.iload_n 1, 1) := by decide +kernel
theorem dX0_hasRingWithoutPromise_10 : decode cX0_hasRingWithoutPromise 10 = .ok (.invokevirtual 49, 3) := by decide +kernel
theorem dX0_hasRingWithoutPromise_13 : decode cX0_hasRingWithoutPromise 13 = .ok (.iconst 1, 1) := by decide +kernel
theorem dX0_hasRingWithoutPromise_14 : decode cX0_hasRingWithoutPromise 14 = .ok (.iload_n 2, 1) := by decide +kernel
theorem dX0_hasRingWithoutPromise_15 : decode cX0_hasRingWithoutPromise 15 = .ok (.ishl, 1) := by decide +kernel
theorem dX0_hasRingWithoutPromise_16 : decode cX0_hasRingWithoutPromise 16 = .ok (.iand, 1) := by decide +kernel
theorem dX0_hasRingWithoutPromise_17 : decode cX0_hasRingWithoutPromise 17 = .ok (.ifCond .eq 5, 3) := by decide +kernel
theorem dX0_hasRingWithoutPromise_20 : decode cX0_hasRingWithoutPromise 20 = .ok (.iconst 1, 1) := by decide +kernel
theorem dX0_hasRingWithoutPromise_21 : decode cX0_hasRingWithoutPromise 21 = .ok (.ireturn, 1) := by decide +kernel
theorem dX0_hasRingWithoutPromise_22 : decode cX0_hasRingWithoutPromise 22 = .ok (.iinc 2 1, 3) := by decide +kernel
theorem dX0_hasRingWithoutPromise_25 : decode cX0_hasRingWithoutPromise 25 = .ok (.goto (-23), 3) := by decide +kernel
theorem dX0_hasRingWithoutPromise_28 : decode cX0_hasRingWithoutPromise 28 = .ok (.iconst 0, 1) := by decide +kernel
theorem dX0_hasRingWithoutPromise_29 : decode cX0_hasRingWithoutPromise 29 = .ok (.ireturn, 1) := by decide +kernel
theorem dX0_reachedWithoutPromise_0 : decode cX0_reachedWithoutPromise 0 = .ok (.iconst 0, 1) := by decide +kernel
theorem dX0_reachedWithoutPromise_1 : decode cX0_reachedWithoutPromise 1 = .ok (.istore_n 3, 1) := by decide +kernel
theorem dX0_reachedWithoutPromise_2 : decode cX0_reachedWithoutPromise 2 = .ok (.iconst 0, 1) := by decide +kernel
theorem dX0_reachedWithoutPromise_3 : decode cX0_reachedWithoutPromise 3 = .ok (.istore 4, 2) := by decide +kernel
theorem dX0_reachedWithoutPromise_5 : decode cX0_reachedWithoutPromise 5 = .ok (.iload 4, 2) := by decide +kernel
theorem dX0_reachedWithoutPromise_7 : decode cX0_reachedWithoutPromise 7 = .ok (.iload_n 2, 1) := by decide +kernel
theorem dX0_reachedWithoutPromise_8 : decode cX0_reachedWithoutPromise 8 = .ok (.if_icmp .ge 86, 3) := by decide +kernel
theorem dX0_reachedWithoutPromise_11 : decode cX0_reachedWithoutPromise 11 = .ok (.iconst 0, 1) := by decide +kernel
theorem dX0_reachedWithoutPromise_12 : decode cX0_reachedWithoutPromise 12 = .ok (.istore 5, 2) := by decide +kernel
theorem dX0_reachedWithoutPromise_14 : decode cX0_reachedWithoutPromise 14 = .ok (.iload 5, 2) := by decide +kernel
theorem dX0_reachedWithoutPromise_16 : decode cX0_reachedWithoutPromise 16 = .ok (.aload_n 0, 1) := by decide +kernel
theorem dX0_reachedWithoutPromise_17 : decode cX0_reachedWithoutPromise 17 = .ok (.getfield 33, 3) := by decide +kernel
theorem dX0_reachedWithoutPromise_20 : decode cX0_reachedWithoutPromise 20 = .ok (.if_icmp .ge 68, 3) := by decide +kernel
theorem dX0_reachedWithoutPromise_23 : decode cX0_reachedWithoutPromise 23 = .ok (.aload_n 0, 1) := by decide +kernel
theorem dX0_reachedWithoutPromise_24 : decode cX0_reachedWithoutPromise 24 = .ok (.getfield 9, 3) := by decide +kernel
theorem dX0_reachedWithoutPromise_27 : decode cX0_reachedWithoutPromise 27 = .ok (.iload 5, 2) := by decide +kernel
theorem dX0_reachedWithoutPromise_29 : decode cX0_reachedWithoutPromise 29 = .ok (.iaload, 1) := by decide +kernel
theorem dX0_reachedWithoutPromise_30 : decode cX0_reachedWithoutPromise 30 = .ok (.iload_n 1, 1) := by decide +kernel
theorem dX0_reachedWithoutPromise_31 : decode cX0_reachedWithoutPromise 31 = .ok (.if_icmp .eq 17, 3) := by decide +kernel
theorem dX0_reachedWithoutPromise_34 : decode cX0_reachedWithoutPromise 34 = .ok (.iload_n 3, 1) := by decide +kernel
theorem dX0_reachedWithoutPromise_35 : decode cX0_reachedWithoutPromise 35 = .ok (.iconst 1, 1) := by decide +kernel
theorem dX0_reachedWithoutPromise_36 : decode cX0_reachedWithoutPromise 36 = .ok (.aload_n 0, 1) := by decide +kernel
theorem dX0_reachedWithoutPromise_37 : decode cX0_reachedWithoutPromise 37 = .ok (.getfield 9, 3) := by decide +kernel
theorem dX0_reachedWithoutPromise_40 : decode cX0_reachedWithoutPromise 40 = .ok (.iload 5, 2) := by decide +kernel
theorem dX0_reachedWithoutPromise_42 : decode cX0_reachedWithoutPromise 42 = .ok (.iaload, 1) := by decide +kernel
theorem dX0_reachedWithoutPromise_43 : decode cX0_reachedWithoutPromise 43 = .ok (.ishl, 1) := by decide +kernel
theorem dX0_reachedWithoutPromise_44 : decode cX0_reachedWithoutPromise 44 = .ok (.iand, 1) := by decide +kernel
theorem dX0_reachedWithoutPromise_45 : decode cX0_reachedWithoutPromise 45 = .ok (.ifCond .eq 7, 3) := by decide +kernel
theorem dX0_reachedWithoutPromise_48 : decode cX0_reachedWithoutPromise 48 = .ok (.iconst 1, 1) := by decide +kernel
theorem dX0_reachedWithoutPromise_49 : decode cX0_reachedWithoutPromise 49 = .ok (.goto 4, 3) := by decide +kernel
theorem dX0_reachedWithoutPromise_52 : decode cX0_reachedWithoutPromise 52 = .ok (.iconst 0, 1) := by decide +kernel
theorem dX0_reachedWithoutPromise_53 : decode cX0_reachedWithoutPromise 53 = .ok (.istore 6, 2) := by decide +kernel
theorem dX0_reachedWithoutPromise_55 : decode cX0_reachedWithoutPromise 55 = .ok (.aload_n 0, 1) := by decide +kernel
theorem dX0_reachedWithoutPromise_56 : decode cX0_reachedWithoutPromise 56 = .ok (.getfield 18, 3) := by decide +kernel
theorem dX0_reachedWithoutPromise_59 : decode cX0_reachedWithoutPromise 59 = .ok (.iload 5, 2) := by decide +kernel
theorem dX0_reachedWithoutPromise_61 : decode cX0_reachedWithoutPromise 61 = .ok (.iaload, 1) := by decide +kernel
theorem dX0_reachedWithoutPromise_62 : decode cX0_reachedWithoutPromise 62 = .ok (.ifCond .ne 20, 3) := by decide +kernel
theorem dX0_reachedWithoutPromise_65 : decode cX0_reachedWithoutPromise 65 = .ok (.iload 6, 2) := by decide +kernel
theorem dX0_reachedWithoutPromise_67 : decode cX0_reachedWithoutPromise 67 = .ok (.ifCond .eq 15, 3) := by decide +kernel
theorem dX0_reachedWithoutPromise_70 : decode cX0_reachedWithoutPromise 70 = .ok (.iload_n 3, 1) := by decide +kernel
theorem dX0_reachedWithoutPromise_71 : decode cX0_reachedWithoutPromise 71 = .ok (.iconst 1, 1) := by decide +kernel
theorem dX0_reachedWithoutPromise_72 : decode cX0_reachedWithoutPromise 72 = .ok (.aload_n 0, 1) := by decide +kernel
theorem dX0_reachedWithoutPromise_73 : decode cX0_reachedWithoutPromise 73 = .ok (.getfield 15, 3) := by decide +kernel
theorem dX0_reachedWithoutPromise_76 : decode cX0_reachedWithoutPromise 76 = .ok (.iload 5, 2) := by decide +kernel
theorem dX0_reachedWithoutPromise_78 : decode cX0_reachedWithoutPromise 78 = .ok (.iaload, 1) := by decide +kernel
theorem dX0_reachedWithoutPromise_79 : decode cX0_reachedWithoutPromise 79 = .ok (.ishl, 1) := by decide +kernel
theorem dX0_reachedWithoutPromise_80 : decode cX0_reachedWithoutPromise 80 = .ok (.ior, 1) := by decide +kernel
theorem dX0_reachedWithoutPromise_81 : decode cX0_reachedWithoutPromise 81 = .ok (.istore_n 3, 1) := by decide +kernel
theorem dX0_reachedWithoutPromise_82 : decode cX0_reachedWithoutPromise 82 = .ok (.iinc 5 1, 3) := by decide +kernel
theorem dX0_reachedWithoutPromise_85 : decode cX0_reachedWithoutPromise 85 = .ok (.goto (-71), 3) := by decide +kernel
theorem dX0_reachedWithoutPromise_88 : decode cX0_reachedWithoutPromise 88 = .ok (.iinc 4 1, 3) := by decide +kernel
theorem dX0_reachedWithoutPromise_91 : decode cX0_reachedWithoutPromise 91 = .ok (.goto (-86), 3) := by decide +kernel
theorem dX0_reachedWithoutPromise_94 : decode cX0_reachedWithoutPromise 94 = .ok (.iload_n 3, 1) := by decide +kernel
theorem dX0_reachedWithoutPromise_95 : decode cX0_reachedWithoutPromise 95 = .ok (.ireturn, 1) := by decide +kernel
theorem dX1_init_0 : decode cX1_init 0 = .ok (.aload_n 0, 1) := by decide +kernel
theorem dX1_init_1 : decode cX1_init 1 = .ok (.invokespecial 3, 3) := by decide +kernel
theorem dX1_init_4 : decode cX1_init 4 = .ok (.aload_n 0, 1) := by decide +kernel
theorem dX1_init_5 : decode cX1_init 5 = .ok (.sipush 200, 3) := by decide +kernel
theorem dX1_init_8 : decode cX1_init 8 = .ok (.newarray .int, 2) := by decide +kernel
theorem dX1_init_10 : decode cX1_init 10 = .ok (.putfield 9, 3) := by decide +kernel
theorem dX1_init_13 : decode cX1_init 13 = .ok (.aload_n 0, 1) := by decide +kernel
theorem dX1_init_14 : decode cX1_init 14 = .ok (.sipush 200, 3) := by decide +kernel
theorem dX1_init_17 : decode cX1_init 17 = .ok (.newarray .int, 2) := by decide +kernel
theorem dX1_init_19 : decode cX1_init 19 = .ok (.putfield 15, 3) := by decide +kernel
theorem dX1_init_22 : decode cX1_init 22 = .ok (.aload_n 0, 1) := by decide +kernel
theorem dX1_init_23 : decode cX1_init 23 = .ok (.sipush 200, 3) := by decide +kernel
theorem dX1_init_26 : decode cX1_init 26 = .ok (.newarray .int, 2) := by decide +kernel
theorem dX1_init_28 : decode cX1_init 28 = .ok (.putfield 18, 3) := by decide +kernel
theorem dX1_init_31 : decode cX1_init 31 = .ok (.aload_n 0, 1) := by decide +kernel
theorem dX1_init_32 : decode cX1_init 32 = .ok (.sipush 200, 3) := by decide +kernel
theorem dX1_init_35 : decode cX1_init 35 = .ok (.newarray .int, 2) := by decide +kernel
theorem dX1_init_37 : decode cX1_init 37 = .ok (.putfield 21, 3) := by decide +kernel
theorem dX1_init_40 : decode cX1_init 40 = .ok (.return_, 1) := by decide +kernel
theorem dX1_clear_0 : decode cX1_clear 0 = .ok (.aload_n 0, 1) := by decide +kernel
theorem dX1_clear_1 : decode cX1_clear 1 = .ok (.iconst 0, 1) := by decide +kernel
theorem dX1_clear_2 : decode cX1_clear 2 = .ok (.putfield 24, 3) := by decide +kernel
theorem dX1_clear_5 : decode cX1_clear 5 = .ok (.return_, 1) := by decide +kernel
theorem dX1_add_0 : decode cX1_add 0 = .ok (.aload_n 0, 1) := by decide +kernel
theorem dX1_add_1 : decode cX1_add 1 = .ok (.getfield 24, 3) := by decide +kernel
theorem dX1_add_4 : decode cX1_add 4 = .ok (.sipush 200, 3) := by decide +kernel
theorem dX1_add_7 : decode cX1_add 7 = .ok (.if_icmp .lt 4, 3) := by decide +kernel
theorem dX1_add_10 : decode cX1_add 10 = .ok (.return_, 1) := by decide +kernel
theorem dX1_add_11 : decode cX1_add 11 = .ok (.aload_n 0, 1) := by decide +kernel
theorem dX1_add_12 : decode cX1_add 12 = .ok (.getfield 9, 3) := by decide +kernel
theorem dX1_add_15 : decode cX1_add 15 = .ok (.aload_n 0, 1) := by decide +kernel
theorem dX1_add_16 : decode cX1_add 16 = .ok (.getfield 24, 3) := by decide +kernel
theorem dX1_add_19 : decode cX1_add 19 = .ok (.iload_n 1, 1) := by decide +kernel
theorem dX1_add_20 : decode cX1_add 20 = .ok (.iastore, 1) := by decide +kernel
theorem dX1_add_21 : decode cX1_add 21 = .ok (.aload_n 0, 1) := by decide +kernel
theorem dX1_add_22 : decode cX1_add 22 = .ok (.getfield 15, 3) := by decide +kernel
theorem dX1_add_25 : decode cX1_add 25 = .ok (.aload_n 0, 1) := by decide +kernel
theorem dX1_add_26 : decode cX1_add 26 = .ok (.getfield 24, 3) := by decide +kernel
theorem dX1_add_29 : decode cX1_add 29 = .ok (.iload_n 2, 1) := by decide +kernel
theorem dX1_add_30 : decode cX1_add 30 = .ok (.iastore, 1) := by decide +kernel
theorem dX1_add_31 : decode cX1_add 31 = .ok (.aload_n 0, 1) := by decide +kernel
theorem dX1_add_32 : decode cX1_add 32 = .ok (.getfield 18, 3) := by decide +kernel
theorem dX1_add_35 : decode cX1_add 35 = .ok (.aload_n 0, 1) := by decide +kernel
theorem dX1_add_36 : decode cX1_add 36 = .ok (.getfield 24, 3) := by decide +kernel
theorem dX1_add_39 : decode cX1_add 39 = .ok (.iload_n 3, 1) := by decide +kernel
theorem dX1_add_40 : decode cX1_add 40 = .ok (.iastore, 1) := by decide +kernel
theorem dX1_add_41 : decode cX1_add 41 = .ok (.aload_n 0, 1) := by decide +kernel
theorem dX1_add_42 : decode cX1_add 42 = .ok (.getfield 21, 3) := by decide +kernel
theorem dX1_add_45 : decode cX1_add 45 = .ok (.aload_n 0, 1) := by decide +kernel
theorem dX1_add_46 : decode cX1_add 46 = .ok (.getfield 24, 3) := by decide +kernel
theorem dX1_add_49 : decode cX1_add 49 = .ok (.iload 4, 2) := by decide +kernel
theorem dX1_add_51 : decode cX1_add 51 = .ok (.iastore, 1) := by decide +kernel
theorem dX1_add_52 : decode cX1_add 52 = .ok (.aload_n 0, 1) := by decide +kernel
theorem dX1_add_53 : decode cX1_add 53 = .ok (.dup, 1) := by decide +kernel
theorem dX1_add_54 : decode cX1_add 54 = .ok (.getfield 24, 3) := by decide +kernel
theorem dX1_add_57 : decode cX1_add 57 = .ok (.iconst 1, 1) := by decide +kernel
theorem dX1_add_58 : decode cX1_add 58 = .ok (.iadd, 1) := by decide +kernel
theorem dX1_add_59 : decode cX1_add 59 = .ok (.putfield 24, 3) := by decide +kernel
theorem dX1_add_62 : decode cX1_add 62 = .ok (.return_, 1) := by decide +kernel
theorem dX2_init_0 : decode cX2_init 0 = .ok (.aload_n 0, 1) := by decide +kernel
theorem dX2_init_1 : decode cX2_init 1 = .ok (.invokespecial 3, 3) := by decide +kernel
theorem dX2_init_4 : decode cX2_init 4 = .ok (.aload_n 0, 1) := by decide +kernel
theorem dX2_init_5 : decode cX2_init 5 = .ok (.bipush 30, 2) := by decide +kernel
theorem dX2_init_7 : decode cX2_init 7 = .ok (.newarray .int, 2) := by decide +kernel
theorem dX2_init_9 : decode cX2_init 9 = .ok (.putfield 9, 3) := by decide +kernel
theorem dX2_init_12 : decode cX2_init 12 = .ok (.aload_n 0, 1) := by decide +kernel
theorem dX2_init_13 : decode cX2_init 13 = .ok (.bipush 30, 2) := by decide +kernel
theorem dX2_init_15 : decode cX2_init 15 = .ok (.newarray .int, 2) := by decide +kernel
theorem dX2_init_17 : decode cX2_init 17 = .ok (.putfield 15, 3) := by decide +kernel
theorem dX2_init_20 : decode cX2_init 20 = .ok (.aload_n 0, 1) := by decide +kernel
theorem dX2_init_21 : decode cX2_init 21 = .ok (.bipush 30, 2) := by decide +kernel
theorem dX2_init_23 : decode cX2_init 23 = .ok (.newarray .int, 2) := by decide +kernel
theorem dX2_init_25 : decode cX2_init 25 = .ok (.putfield 18, 3) := by decide +kernel
theorem dX2_init_28 : decode cX2_init 28 = .ok (.return_, 1) := by decide +kernel
theorem dX2_firstTime_0 : decode cX2_firstTime 0 = .ok (.aload_n 0, 1) := by decide +kernel
theorem dX2_firstTime_1 : decode cX2_firstTime 1 = .ok (.getfield 21, 3) := by decide +kernel
theorem dX2_firstTime_4 : decode cX2_firstTime 4 = .ok (.ifCond .ne 8, 3) := by decide +kernel
theorem dX2_firstTime_7 : decode cX2_firstTime 7 = .ok (.ldc 25, 2) := by decide +kernel
theorem dX2_firstTime_9 : decode cX2_firstTime 9 = .ok (.goto 9, 3) := by decide +kernel
theorem dX2_firstTime_12 : decode cX2_firstTime 12 = .ok (.aload_n 0, 1) := by decide +kernel
theorem dX2_firstTime_13 : decode cX2_firstTime 13 = .ok (.getfield 9, 3) := by decide +kernel
theorem dX2_firstTime_16 : decode cX2_firstTime 16 = .ok (.iconst 0, 1) := by decide +kernel
theorem dX2_firstTime_17 : decode cX2_firstTime 17 = .ok (.iaload, 1) := by decide +kernel
theorem dX2_firstTime_18 : decode cX2_firstTime 18 = .ok (.ireturn, 1) := by decide +kernel
theorem dX2_firstValue_0 : decode cX2_firstValue 0 = .ok (.aload_n 0, 1) := by decide +kernel
theorem dX2_firstValue_1 : decode cX2_firstValue 1 = .ok (.getfield 21, 3) := by decide +kernel
theorem dX2_firstValue_4 : decode cX2_firstValue 4 = .ok (.ifCond .ne 7, 3) := by decide +kernel
theorem dX2_firstValue_7 : decode cX2_firstValue 7 = .ok (.iconst (-1), 1) := by decide +kernel
theorem dX2_firstValue_8 : decode cX2_firstValue 8 = .ok (.goto 9, 3) := by decide +kernel
theorem dX2_firstValue_11 : decode cX2_firstValue 11 = .ok (.aload_n 0, 1) := by decide +kernel
theorem dX2_firstValue_12 : decode cX2_firstValue 12 = .ok (.getfield 15, 3) := by decide +kernel
theorem dX2_firstValue_15 : decode cX2_firstValue 15 = .ok (.iconst 0, 1) := by decide +kernel
theorem dX2_firstValue_16 : decode cX2_firstValue 16 = .ok (.iaload, 1) := by decide +kernel
theorem dX2_firstValue_17 : decode cX2_firstValue 17 = .ok (.ireturn, 1) := by decide +kernel
theorem dX2_add_0 : decode cX2_add 0 = .ok (.aload_n 0, 1) := by decide +kernel
theorem dX2_add_1 : decode cX2_add 1 = .ok (.getfield 21, 3) := by decide +kernel
theorem dX2_add_4 : decode cX2_add 4 = .ok (.bipush 30, 2) := by decide +kernel
theorem dX2_add_6 : decode cX2_add 6 = .ok (.if_icmp .lt 4, 3) := by decide +kernel
theorem dX2_add_9 : decode cX2_add 9 = .ok (.return_, 1) := by decide +kernel
theorem dX2_add_10 : decode cX2_add 10 = .ok (.aload_n 0, 1) := by decide +kernel
theorem dX2_add_11 : decode cX2_add 11 = .ok (.getfield 21, 3) := by decide +kernel
theorem dX2_add_14 : decode cX2_add 14 = .ok (.istore 4, 2) := by decide +kernel
theorem dX2_add_16 : decode cX2_add 16 = .ok (.iload 4, 2) := by decide +kernel
theorem dX2_add_18 : decode cX2_add 18 = .ok (.ifCond .le 70, 3) := by decide +kernel
theorem dX2_add_21 : decode cX2_add 21 = .ok (.aload_n 0, 1) := by decide +kernel
theorem dX2_add_22 : decode cX2_add 22 = .ok (.iload 4, 2) := by decide +kernel
theorem dX2_add_24 : decode cX2_add 24 = .ok (.iconst 1, 1) := by decide +kernel
theorem dX2_add_25 : decode cX2_add 25 = .ok (.isub, 1) := by decide +kernel
theorem dX2_add_26 : decode cX2_add 26 = .ok (.iload_n 1, 1) := by decide +kernel
theorem dX2_add_27 : decode cX2_add 27 = .ok (.iload_n 3, 1) := by decide +kernel
theorem dX2_add_28 : decode cX2_add 28 = .ok (.invokevirtual 26, 3) := by decide +kernel
theorem dX2_add_31 : decode cX2_add 31 = .ok (.ifCond .eq 57, 3) := by decide +kernel
theorem dX2_add_34 : decode cX2_add 34 = .ok (.aload_n 0, 1) := by decide +kernel
theorem dX2_add_35 : decode cX2_add 35 = .ok (.getfield 9, 3) := by decide +kernel
theorem dX2_add_38 : decode cX2_add 38 = .ok (.iload 4, 2) := by decide +kernel
theorem dX2_add_40 : decode cX2_add 40 = .ok (.aload_n 0, 1) := by decide +kernel
theorem dX2_add_41 : decode cX2_add 41 = .ok (.getfield 9, 3) := by decide +kernel
theorem dX2_add_44 : decode cX2_add 44 = .ok (.iload 4, 2) := by decide +kernel
theorem dX2_add_46 : decode cX2_add 46 = .ok (.iconst 1, 1) := by decide +kernel
theorem dX2_add_47 : decode cX2_add 47 = .ok (.isub, 1) := by decide +kernel
theorem dX2_add_48 : decode cX2_add 48 = .ok (.iaload, 1) := by decide +kernel
theorem dX2_add_49 : decode cX2_add 49 = .ok (.iastore, 1) := by decide +kernel
theorem dX2_add_50 : decode cX2_add 50 = .ok (.aload_n 0, 1) := by decide +kernel
theorem dX2_add_51 : decode cX2_add 51 = .ok (.getfield 15, 3) := by decide +kernel
theorem dX2_add_54 : decode cX2_add 54 = .ok (.iload 4, 2) := by decide +kernel
theorem dX2_add_56 : decode cX2_add 56 = .ok (.aload_n 0, 1) := by decide +kernel
theorem dX2_add_57 : decode cX2_add 57 = .ok (.getfield 15, 3) := by decide +kernel
theorem dX2_add_60 : decode cX2_add 60 = .ok (.iload 4, 2) := by decide +kernel
theorem dX2_add_62 : decode cX2_add 62 = .ok (.iconst 1, 1) := by decide +kernel
theorem dX2_add_63 : decode cX2_add 63 = .ok (.isub, 1) := by decide +kernel
theorem dX2_add_64 : decode cX2_add 64 = .ok (.iaload, 1) := by decide +kernel
theorem dX2_add_65 : decode cX2_add 65 = .ok (.iastore, 1) := by decide +kernel
theorem dX2_add_66 : decode cX2_add 66 = .ok (.aload_n 0, 1) := by decide +kernel
theorem dX2_add_67 : decode cX2_add 67 = .ok (.getfield 18, 3) := by decide +kernel
theorem dX2_add_70 : decode cX2_add 70 = .ok (.iload 4, 2) := by decide +kernel
theorem dX2_add_72 : decode cX2_add 72 = .ok (.aload_n 0, 1) := by decide +kernel
theorem dX2_add_73 : decode cX2_add 73 = .ok (.getfield 18, 3) := by decide +kernel
theorem dX2_add_76 : decode cX2_add 76 = .ok (.iload 4, 2) := by decide +kernel
theorem dX2_add_78 : decode cX2_add 78 = .ok (.iconst 1, 1) := by decide +kernel
theorem dX2_add_79 : decode cX2_add 79 = .ok (.isub, 1) := by decide +kernel
theorem dX2_add_80 : decode cX2_add 80 = .ok (.iaload, 1) := by decide +kernel
theorem dX2_add_81 : decode cX2_add 81 = .ok (.iastore, 1) := by decide +kernel
theorem dX2_add_82 : decode cX2_add 82 = .ok (.iinc 4 (-1), 3) := by decide +kernel
theorem dX2_add_85 : decode cX2_add 85 = .ok (.goto (-69), 3) := by decide +kernel
theorem dX2_add_88 : decode cX2_add 88 = .ok (.aload_n 0, 1) := by decide +kernel
theorem dX2_add_89 : decode cX2_add 89 = .ok (.getfield 9, 3) := by decide +kernel
theorem dX2_add_92 : decode cX2_add 92 = .ok (.iload 4, 2) := by decide +kernel
theorem dX2_add_94 : decode cX2_add 94 = .ok (.iload_n 1, 1) := by decide +kernel
theorem dX2_add_95 : decode cX2_add 95 = .ok (.iastore, 1) := by decide +kernel
theorem dX2_add_96 : decode cX2_add 96 = .ok (.aload_n 0, 1) := by decide +kernel
theorem dX2_add_97 : decode cX2_add 97 = .ok (.getfield 15, 3) := by decide +kernel
theorem dX2_add_100 : decode cX2_add 100 = .ok (.iload 4, 2) := by decide +kernel
theorem dX2_add_102 : decode cX2_add 102 = .ok (.iload_n 2, 1) := by decide +kernel
theorem dX2_add_103 : decode cX2_add 103 = .ok (.iastore, 1) := by decide +kernel
theorem dX2_add_104 : decode cX2_add 104 = .ok (.aload_n 0, 1) := by decide +kernel
theorem dX2_add_105 : decode cX2_add 105 = .ok (.getfield 18, 3) := by decide +kernel
theorem dX2_add_108 : decode cX2_add 108 = .ok (.iload 4, 2) := by decide +kernel
theorem dX2_add_110 : decode cX2_add 110 = .ok (.iload_n 3, 1) := by decide +kernel
theorem dX2_add_111 : decode cX2_add 111 = .ok (.iastore, 1) := by decide +kernel
theorem dX2_add_112 : decode cX2_add 112 = .ok (.aload_n 0, 1) := by decide +kernel
theorem dX2_add_113 : decode cX2_add 113 = .ok (.dup, 1) := by decide +kernel
theorem dX2_add_114 : decode cX2_add 114 = .ok (.getfield 21, 3) := by decide +kernel
theorem dX2_add_117 : decode cX2_add 117 = .ok (.iconst 1, 1) := by decide +kernel
theorem dX2_add_118 : decode cX2_add 118 = .ok (.iadd, 1) := by decide +kernel
theorem dX2_add_119 : decode cX2_add 119 = .ok (.putfield 21, 3) := by decide +kernel
theorem dX2_add_122 : decode cX2_add 122 = .ok (.return_, 1) := by decide +kernel
theorem dX2_isBehind_0 : decode cX2_isBehind 0 = .ok (.aload_n 0, 1) := by decide +kernel
theorem dX2_isBehind_1 : decode cX2_isBehind 1 = .ok (.getfield 9, 3) := by decide +kernel
theorem dX2_isBehind_4 : decode cX2_isBehind 4 = .ok (.iload_n 1, 1) := by decide +kernel
theorem dX2_isBehind_5 : decode cX2_isBehind 5 = .ok (.iaload, 1) := by decide +kernel
theorem dX2_isBehind_6 : decode cX2_isBehind 6 = .ok (.iload_n 2, 1) := by decide +kernel
theorem dX2_isBehind_7 : decode cX2_isBehind 7 = .ok (.if_icmp .gt 23, 3) := by decide +kernel
theorem dX2_isBehind_10 : decode cX2_isBehind 10 = .ok (.aload_n 0, 1) := by decide +kernel
theorem dX2_isBehind_11 : decode cX2_isBehind 11 = .ok (.getfield 9, 3) := by decide +kernel
theorem dX2_isBehind_14 : decode cX2_isBehind 14 = .ok (.iload_n 1, 1) := by decide +kernel
theorem dX2_isBehind_15 : decode cX2_isBehind 15 = .ok (.iaload, 1) := by decide +kernel
theorem dX2_isBehind_16 : decode cX2_isBehind 16 = .ok (.iload_n 2, 1) := by decide +kernel
theorem dX2_isBehind_17 : decode cX2_isBehind 17 = .ok (.if_icmp .ne 17, 3) := by decide +kernel
theorem dX2_isBehind_20 : decode cX2_isBehind 20 = .ok (.aload_n 0, 1) := by decide +kernel
theorem dX2_isBehind_21 : decode cX2_isBehind 21 = .ok (.getfield 18, 3) := by decide +kernel
theorem dX2_isBehind_24 : decode cX2_isBehind 24 = .ok (.iload_n 1, 1) := by decide +kernel
theorem dX2_isBehind_25 : decode cX2_isBehind 25 = .ok (.iaload, 1) := by decide +kernel
theorem dX2_isBehind_26 : decode cX2_isBehind 26 = .ok (.iload_n 3, 1) := by decide +kernel
theorem dX2_isBehind_27 : decode cX2_isBehind 27 = .ok (.if_icmp .le 7, 3) := by decide +kernel
theorem dX2_isBehind_30 : decode cX2_isBehind 30 = .ok (.iconst 1, 1) := by decide +kernel
theorem dX2_isBehind_31 : decode cX2_isBehind 31 = .ok (.goto 4, 3) := by decide +kernel
theorem dX2_isBehind_34 : decode cX2_isBehind 34 = .ok (.iconst 0, 1) := by decide +kernel
theorem dX2_isBehind_35 : decode cX2_isBehind 35 = .ok (.ireturn, 1) := by decide +kernel
theorem dX2_removeFirst_0 : decode cX2_removeFirst 0 = .ok (.aload_n 0, 1) := by decide +kernel
theorem dX2_removeFirst_1 : decode cX2_removeFirst 1 = .ok (.getfield 21, 3) := by decide +kernel
theorem dX2_removeFirst_4 : decode cX2_removeFirst 4 = .ok (.ifCond .ne 4, 3) := by decide +kernel
theorem dX2_removeFirst_7 : decode cX2_removeFirst 7 = .ok (.return_, 1) := by decide +kernel
theorem dX2_removeFirst_8 : decode cX2_removeFirst 8 = .ok (.aload_n 0, 1) := by decide +kernel
theorem dX2_removeFirst_9 : decode cX2_removeFirst 9 = .ok (.dup, 1) := by decide +kernel
theorem dX2_removeFirst_10 : decode cX2_removeFirst 10 = .ok (.getfield 21, 3) := by decide +kernel
theorem dX2_removeFirst_13 : decode cX2_removeFirst 13 = .ok (.iconst 1, 1) := by decide +kernel
theorem dX2_removeFirst_14 : decode cX2_removeFirst 14 = .ok (.isub, 1) := by decide +kernel
theorem dX2_removeFirst_15 : decode cX2_removeFirst 15 = .ok (.putfield 21, 3) := by decide +kernel
theorem dX2_removeFirst_18 : decode cX2_removeFirst 18 = .ok (.aload_n 0, 1) := by decide +kernel
theorem dX2_removeFirst_19 : decode cX2_removeFirst 19 = .ok (.getfield 9, 3) := by decide +kernel
theorem dX2_removeFirst_22 : decode cX2_removeFirst 22 = .ok (.iconst 1, 1) := by decide +kernel
theorem dX2_removeFirst_23 : decode cX2_removeFirst 23 = .ok (.aload_n 0, 1) := by decide +kernel
theorem dX2_removeFirst_24 : decode cX2_removeFirst 24 = .ok (.getfield 9, 3) := by decide +kernel
theorem dX2_removeFirst_27 : decode cX2_removeFirst 27 = .ok (.iconst 0, 1) := by decide +kernel
theorem dX2_removeFirst_28 : decode cX2_removeFirst 28 = .ok (.aload_n 0, 1) := by decide +kernel
theorem dX2_removeFirst_29 : decode cX2_removeFirst 29 = .ok (.getfield 21, 3) := by decide +kernel
theorem dX2_removeFirst_32 : decode cX2_removeFirst 32 = .ok (.invokestatic 30, 3) := by decide +kernel
theorem dX2_removeFirst_35 : decode cX2_removeFirst 35 = .ok (.aload_n 0, 1) := by decide +kernel
theorem dX2_removeFirst_36 : decode cX2_removeFirst 36 = .ok (.getfield 15, 3) := by decide +kernel
theorem dX2_removeFirst_39 : decode cX2_removeFirst 39 = .ok (.iconst 1, 1) := by decide +kernel
theorem dX2_removeFirst_40 : decode cX2_removeFirst 40 = .ok (.aload_n 0, 1) := by decide +kernel
theorem dX2_removeFirst_41 : decode cX2_removeFirst 41 = .ok (.getfield 15, 3) := by decide +kernel
theorem dX2_removeFirst_44 : decode cX2_removeFirst 44 = .ok (.iconst 0, 1) := by decide +kernel
theorem dX2_removeFirst_45 : decode cX2_removeFirst 45 = .ok (.aload_n 0, 1) := by decide +kernel
theorem dX2_removeFirst_46 : decode cX2_removeFirst 46 = .ok (.getfield 21, 3) := by decide +kernel
theorem dX2_removeFirst_49 : decode cX2_removeFirst 49 = .ok (.invokestatic 30, 3) := by decide +kernel
theorem dX2_removeFirst_52 : decode cX2_removeFirst 52 = .ok (.aload_n 0, 1) := by decide +kernel
theorem dX2_removeFirst_53 : decode cX2_removeFirst 53 = .ok (.getfield 18, 3) := by decide +kernel
theorem dX2_removeFirst_56 : decode cX2_removeFirst 56 = .ok (.iconst 1, 1) := by decide +kernel
theorem dX2_removeFirst_57 : decode cX2_removeFirst 57 = .ok (.aload_n 0, 1) := by decide +kernel
theorem dX2_removeFirst_58 : decode cX2_removeFirst 58 = .ok (.getfield 18, 3) := by decide +kernel
theorem dX2_removeFirst_61 : decode cX2_removeFirst 61 = .ok (.iconst 0, 1) := by decide +kernel
theorem dX2_removeFirst_62 : decode cX2_removeFirst 62 = .ok (.aload_n 0, 1) := by decide +kernel
theorem dX2_removeFirst_63 : decode cX2_removeFirst 63 = .ok (.getfield 21, 3) := by decide +kernel
theorem dX2_removeFirst_66 : decode cX2_removeFirst 66 = .ok (.invokestatic 30, 3) := by decide +kernel
theorem dX2_removeFirst_69 : decode cX2_removeFirst 69 = .ok (.return_, 1) := by decide +kernel
theorem dX2_copyFrom_0 : decode cX2_copyFrom 0 = .ok (.aload_n 1, 1) := by decide +kernel
theorem dX2_copyFrom_1 : decode cX2_copyFrom 1 = .ok (.getfield 9, 3) := by decide +kernel
theorem dX2_copyFrom_4 : decode cX2_copyFrom 4 = .ok (.iconst 0, 1) := by decide +kernel
theorem dX2_copyFrom_5 : decode cX2_copyFrom 5 = .ok (.aload_n 0, 1) := by decide +kernel
theorem dX2_copyFrom_6 : decode cX2_copyFrom 6 = .ok (.getfield 9, 3) := by decide +kernel
theorem dX2_copyFrom_9 : decode cX2_copyFrom 9 = .ok (.iconst 0, 1) := by decide +kernel
theorem dX2_copyFrom_10 : decode cX2_copyFrom 10 = .ok (.aload_n 1, 1) := by decide +kernel
theorem dX2_copyFrom_11 : decode cX2_copyFrom 11 = .ok (.getfield 21, 3) := by decide +kernel
theorem dX2_copyFrom_14 : decode cX2_copyFrom 14 = .ok (.invokestatic 30, 3) := by decide +kernel
theorem dX2_copyFrom_17 : decode cX2_copyFrom 17 = .ok (.aload_n 1, 1) := by decide +kernel
theorem dX2_copyFrom_18 : decode cX2_copyFrom 18 = .ok (.getfield 15, 3) := by decide +kernel
theorem dX2_copyFrom_21 : decode cX2_copyFrom 21 = .ok (.iconst 0, 1) := by decide +kernel
theorem dX2_copyFrom_22 : decode cX2_copyFrom 22 = .ok (.aload_n 0, 1) := by decide +kernel
theorem dX2_copyFrom_23 : decode cX2_copyFrom 23 = .ok (.getfield 15, 3) := by decide +kernel
theorem dX2_copyFrom_26 : decode cX2_copyFrom 26 = .ok (.iconst 0, 1) := by decide +kernel
theorem dX2_copyFrom_27 : decode cX2_copyFrom 27 = .ok (.aload_n 1, 1) := by decide +kernel
theorem dX2_copyFrom_28 : decode cX2_copyFrom 28 = .ok (.getfield 21, 3) := by decide +kernel
theorem dX2_copyFrom_31 : decode cX2_copyFrom 31 = .ok (.invokestatic 30, 3) := by decide +kernel
theorem dX2_copyFrom_34 : decode cX2_copyFrom 34 = .ok (.aload_n 1, 1) := by decide +kernel
theorem dX2_copyFrom_35 : decode cX2_copyFrom 35 = .ok (.getfield 18, 3) := by decide +kernel
theorem dX2_copyFrom_38 : decode cX2_copyFrom 38 = .ok (.iconst 0, 1) := by decide +kernel
theorem dX2_copyFrom_39 : decode cX2_copyFrom 39 = .ok (.aload_n 0, 1) := by decide +kernel
theorem dX2_copyFrom_40 : decode cX2_copyFrom 40 = .ok (.getfield 18, 3) := by decide +kernel
theorem dX2_copyFrom_43 : decode cX2_copyFrom 43 = .ok (.iconst 0, 1) := by decide +kernel
theorem dX2_copyFrom_44 : decode cX2_copyFrom 44 = .ok (.aload_n 1, 1) := by decide +kernel
theorem dX2_copyFrom_45 : decode cX2_copyFrom 45 = .ok (.getfield 21, 3) := by decide +kernel
theorem dX2_copyFrom_48 : decode cX2_copyFrom 48 = .ok (.invokestatic 30, 3) := by decide +kernel
theorem dX2_copyFrom_51 : decode cX2_copyFrom 51 = .ok (.aload_n 0, 1) := by decide +kernel
theorem dX2_copyFrom_52 : decode cX2_copyFrom 52 = .ok (.aload_n 1, 1) := by decide +kernel
theorem dX2_copyFrom_53 : decode cX2_copyFrom 53 = .ok (.getfield 21, 3) := by decide +kernel
theorem dX2_copyFrom_56 : decode cX2_copyFrom 56 = .ok (.putfield 21, 3) := by decide +kernel
theorem dX2_copyFrom_59 : decode cX2_copyFrom 59 = .ok (.return_, 1) := by decide +kernel
end
section
theorem dX3_init_0 : decode cX3_init 0 = .ok (.aload_n 0, 1) := by decide +kernel
theorem dX3_init_1 : decode cX3_init 1 = .ok (.invokespecial 3, 3) := by decide +kernel
theorem dX3_init_4 : decode cX3_init 4 = .ok (.aload_n 0, 1) := by decide +kernel
theorem dX3_init_5 : decode cX3_init 5 = .ok (.new 9, 3) := by decide +kernel
theorem dX3_init_8 : decode cX3_init 8 = .ok (.dup, 1) := by decide +kernel
theorem dX3_init_9 : decode cX3_init 9 = .ok (.invokespecial 11, 3) := by decide +kernel
theorem dX3_init_12 : decode cX3_init 12 = .ok (.putfield 12, 3) := by decide +kernel
theorem dX3_init_15 : decode cX3_init 15 = .ok (.aload_n 0, 1) := by decide +kernel
theorem dX3_init_16 : decode cX3_init 16 = .ok (.bipush 6, 2) := by decide +kernel
theorem dX3_init_18 : decode cX3_init 18 = .ok (.anewarray 18, 3) := by decide +kernel
theorem dX3_init_21 : decode cX3_init 21 = .ok (.putfield 20, 3) := by decide +kernel
theorem dX3_init_24 : decode cX3_init 24 = .ok (.aload_n 0, 1) := by decide +kernel
theorem dX3_init_25 : decode cX3_init 25 = .ok (.bipush 6, 2) := by decide +kernel
theorem dX3_init_27 : decode cX3_init 27 = .ok (.newarray .int, 2) := by decide +kernel
theorem dX3_init_29 : decode cX3_init 29 = .ok (.putfield 24, 3) := by decide +kernel
theorem dX3_init_32 : decode cX3_init 32 = .ok (.aload_n 0, 1) := by decide +kernel
theorem dX3_init_33 : decode cX3_init 33 = .ok (.bipush 6, 2) := by decide +kernel
theorem dX3_init_35 : decode cX3_init 35 = .ok (.newarray .int, 2) := by decide +kernel
theorem dX3_init_37 : decode cX3_init 37 = .ok (.putfield 28, 3) := by decide +kernel
theorem dX3_init_40 : decode cX3_init 40 = .ok (.aload_n 0, 1) := by decide +kernel
theorem dX3_init_41 : decode cX3_init 41 = .ok (.bipush 6, 2) := by decide +kernel
theorem dX3_init_43 : decode cX3_init 43 = .ok (.newarray .int, 2) := by decide +kernel
theorem dX3_init_45 : decode cX3_init 45 = .ok (.putfield 31, 3) := by decide +kernel
theorem dX3_init_48 : decode cX3_init 48 = .ok (.aload_n 0, 1) := by decide +kernel
theorem dX3_init_49 : decode cX3_init 49 = .ok (.iconst 0, 1) := by decide +kernel
theorem dX3_init_50 : decode cX3_init 50 = .ok (.putfield 34, 3) := by decide +kernel
theorem dX3_init_53 : decode cX3_init 53 = .ok (.iconst 0, 1) := by decide +kernel
theorem dX3_init_54 : decode cX3_init 54 = .ok (.istore_n 1, 1) := by decide +kernel
theorem dX3_init_55 : decode cX3_init 55 = .ok (.iload_n 1, 1) := by decide +kernel
theorem dX3_init_56 : decode cX3_init 56 = .ok (.bipush 6, 2) := by decide +kernel
theorem dX3_init_58 : decode cX3_init 58 = .ok (.if_icmp .ge 22, 3) := by decide +kernel
theorem dX3_init_61 : decode cX3_init 61 = .ok (.aload_n 0, 1) := by decide +kernel
theorem dX3_init_62 : decode cX3_init 62 = .ok (.getfield 20, 3) := by decide +kernel
theorem dX3_init_65 : decode cX3_init 65 = .ok (.iload_n 1, 1) := by decide +kernel
theorem dX3_init_66 : decode cX3_init 66 = .ok (.new 18, 3) := by decide +kernel
theorem dX3_init_69 : decode cX3_init 69 = .ok (.dup, 1) := by decide +kernel
theorem dX3_init_70 : decode cX3_init 70 = .ok (.invokespecial 38, 3) := by decide +kernel
theorem dX3_init_73 : decode cX3_init 73 = .ok (.aastore, 1) := by decide +kernel
theorem dX3_init_74 : decode cX3_init 74 = .ok (.iinc 1 1, 3) := by decide +kernel
theorem dX3_init_77 : decode cX3_init 77 = .ok (.goto (-22), 3) := by decide +kernel
theorem dX3_init_80 : decode cX3_init 80 = .ok (.return_, 1) := by decide +kernel
theorem dX3_beginAnew_0 : decode cX3_beginAnew 0 = .ok (.aload_n 0, 1) := by decide +kernel
theorem dX3_beginAnew_1 : decode cX3_beginAnew 1 = .ok (.getfield 12, 3) := by decide +kernel
theorem dX3_beginAnew_4 : decode cX3_beginAnew 4 = .ok (.iconst 0, 1) := by decide +kernel
theorem dX3_beginAnew_5 : decode cX3_beginAnew 5 = .ok (.putfield 39, 3) := by decide +kernel
theorem dX3_beginAnew_8 : decode cX3_beginAnew 8 = .ok (.iconst 0, 1) := by decide +kernel
theorem dX3_beginAnew_9 : decode cX3_beginAnew 9 = .ok (.istore_n 2, 1) := by decide +kernel
theorem dX3_beginAnew_10 : decode cX3_beginAnew 10 = .ok (.iload_n 2, 1) := by decide +kernel
theorem dX3_beginAnew_11 : decode cX3_beginAnew 11 = .ok (.bipush 6, 2) := by decide +kernel
theorem dX3_beginAnew_13 : decode cX3_beginAnew 13 = .ok (.if_icmp .ge 40, 3) := by decide +kernel
theorem dX3_beginAnew_16 : decode cX3_beginAnew 16 = .ok (.aload_n 0, 1) := by decide +kernel
theorem dX3_beginAnew_17 : decode cX3_beginAnew 17 = .ok (.getfield 20, 3) := by decide +kernel
theorem dX3_beginAnew_20 : decode cX3_beginAnew 20 = .ok (.iload_n 2, 1) := by decide +kernel
theorem dX3_beginAnew_21 : decode cX3_beginAnew 21 = .ok (.aaload, 1) := by decide +kernel
theorem dX3_beginAnew_22 : decode cX3_beginAnew 22 = .ok (.iconst 0, 1) := by decide +kernel
theorem dX3_beginAnew_23 : decode cX3_beginAnew 23 = .ok (.putfield 42, 3) := by decide +kernel
theorem dX3_beginAnew_26 : decode cX3_beginAnew 26 = .ok (.aload_n 0, 1) := by decide +kernel
theorem dX3_beginAnew_27 : decode cX3_beginAnew 27 = .ok (.getfield 24, 3) := by decide +kernel
theorem dX3_beginAnew_30 : decode cX3_beginAnew 30 = .ok (.iload_n 2, 1) := by decide +kernel
theorem dX3_beginAnew_31 : decode cX3_beginAnew 31 = .ok (.iconst 0, 1) := by decide +kernel
theorem dX3_beginAnew_32 : decode cX3_beginAnew 32 = .ok (.iastore, 1) := by decide +kernel
theorem dX3_beginAnew_33 : decode cX3_beginAnew 33 = .ok (.aload_n 0, 1) := by decide +kernel
theorem dX3_beginAnew_34 : decode cX3_beginAnew 34 = .ok (.getfield 28, 3) := by decide +kernel
theorem dX3_beginAnew_37 : decode cX3_beginAnew 37 = .ok (.iload_n 2, 1) := by decide +kernel
theorem dX3_beginAnew_38 : decode cX3_beginAnew 38 = .ok (.iconst 0, 1) := by decide +kernel
theorem dX3_beginAnew_39 : decode cX3_beginAnew 39 = .ok (.iastore, 1) := by decide +kernel
theorem dX3_beginAnew_40 : decode cX3_beginAnew 40 = .ok (.aload_n 0, 1) := by decide +kernel
theorem dX3_beginAnew_41 : decode cX3_beginAnew 41 = .ok (.getfield 31, 3) := by decide +kernel
theorem dX3_beginAnew_44 : decode cX3_beginAnew 44 = .ok (.iload_n 2, 1) := by decide +kernel
theorem dX3_beginAnew_45 : decode cX3_beginAnew 45 = .ok (.iconst 0, 1) := by decide +kernel
theorem dX3_beginAnew_46 : decode cX3_beginAnew 46 = .ok (.iastore, 1) := by decide +kernel
theorem dX3_beginAnew_47 : decode cX3_beginAnew 47 = .ok (.iinc 2 1, 3) := by decide +kernel
theorem dX3_beginAnew_50 : decode cX3_beginAnew 50 = .ok (.goto (-40), 3) := by decide +kernel
theorem dX3_beginAnew_53 : decode cX3_beginAnew 53 = .ok (.aload_n 0, 1) := by decide +kernel
theorem dX3_beginAnew_54 : decode cX3_beginAnew 54 = .ok (.iload_n 1, 1) := by decide +kernel
theorem dX3_beginAnew_55 : decode cX3_beginAnew 55 = .ok (.putfield 43, 3) := by decide +kernel
theorem dX3_beginAnew_58 : decode cX3_beginAnew 58 = .ok (.aload_n 0, 1) := by decide +kernel
theorem dX3_beginAnew_59 : decode cX3_beginAnew 59 = .ok (.iconst 0, 1) := by decide +kernel
theorem dX3_beginAnew_60 : decode cX3_beginAnew 60 = .ok (.putfield 46, 3) := by decide +kernel
theorem dX3_beginAnew_63 : decode cX3_beginAnew 63 = .ok (.aload_n 0, 1) := by decide +kernel
theorem dX3_beginAnew_64 : decode cX3_beginAnew 64 = .ok (.iconst 0, 1) := by decide +kernel
theorem dX3_beginAnew_65 : decode cX3_beginAnew 65 = .ok (.putfield 49, 3) := by decide +kernel
theorem dX3_beginAnew_68 : decode cX3_beginAnew 68 = .ok (.aload_n 0, 1) := by decide +kernel
theorem dX3_beginAnew_69 : decode cX3_beginAnew 69 = .ok (.iconst 0, 1) := by decide +kernel
theorem dX3_beginAnew_70 : decode cX3_beginAnew 70 = .ok (.putfield 52, 3) := by decide +kernel
theorem dX3_beginAnew_73 : decode cX3_beginAnew 73 = .ok (.aload_n 0, 1) := by decide +kernel
theorem dX3_beginAnew_74 : decode cX3_beginAnew 74 = .ok (.iconst 0, 1) := by decide +kernel
theorem dX3_beginAnew_75 : decode cX3_beginAnew 75 = .ok (.putfield 55, 3) := by decide +kernel
theorem dX3_beginAnew_78 : decode cX3_beginAnew 78 = .ok (.aload_n 0, 1) := by decide +kernel
theorem dX3_beginAnew_79 : decode cX3_beginAnew 79 = .ok (.iconst 0, 1) := by decide +kernel
theorem dX3_beginAnew_80 : decode cX3_beginAnew 80 = .ok (.putfield 58, 3) := by decide +kernel
theorem dX3_beginAnew_83 : decode cX3_beginAnew 83 = .ok (.return_, 1) := by decide +kernel
theorem dX3_copyFrom_0 : decode cX3_copyFrom 0 = .ok (.aload_n 0, 1) := by decide +kernel
theorem dX3_copyFrom_1 : decode cX3_copyFrom 1 = .ok (.getfield 12, 3) := by decide +kernel
theorem dX3_copyFrom_4 : decode cX3_copyFrom 4 = .ok (.aload_n 1, 1) := by decide +kernel
theorem dX3_copyFrom_5 : decode cX3_copyFrom 5 = .ok (.getfield 12, 3) := by decide +kernel
theorem dX3_copyFrom_8 : decode cX3_copyFrom 8 = .ok (.invokevirtual 61, 3) := by decide +kernel
theorem dX3_copyFrom_11 : decode cX3_copyFrom 11 = .ok (.iconst 0, 1) := by decide +kernel
theorem dX3_copyFrom_12 : decode cX3_copyFrom 12 = .ok (.istore_n 2, 1) := by decide +kernel
theorem dX3_copyFrom_13 : decode cX3_copyFrom 13 = .ok (.iload_n 2, 1) := by decide +kernel
theorem dX3_copyFrom_14 : decode cX3_copyFrom 14 = .ok (.bipush 6, 2) := by decide +kernel
theorem dX3_copyFrom_16 : decode cX3_copyFrom 16 = .ok (.if_icmp .ge 60, 3) := by decide +kernel
theorem dX3_copyFrom_19 : decode cX3_copyFrom 19 = .ok (.aload_n 0, 1) := by decide +kernel
theorem dX3_copyFrom_20 : decode cX3_copyFrom 20 = .ok (.getfield 20, 3) := by decide +kernel
theorem dX3_copyFrom_23 : decode cX3_copyFrom 23 = .ok (.iload_n 2, 1) := by decide +kernel
theorem dX3_copyFrom_24 : decode cX3_copyFrom 24 = .ok (.aaload, 1) := by decide +kernel
theorem dX3_copyFrom_25 : decode cX3_copyFrom 25 = .ok (.aload_n 1, 1) := by decide +kernel
theorem dX3_copyFrom_26 : decode cX3_copyFrom 26 = .ok (.getfield 20, 3) := by decide +kernel
theorem dX3_copyFrom_29 : decode cX3_copyFrom 29 = .ok (.iload_n 2, 1) := by decide +kernel
theorem dX3_copyFrom_30 : decode cX3_copyFrom 30 = .ok (.aaload, 1) := by decide +kernel
theorem dX3_copyFrom_31 : decode cX3_copyFrom 31 = .ok (.invokevirtual 65, 3) := by decide +kernel
theorem dX3_copyFrom_34 : decode cX3_copyFrom 34 = .ok (.aload_n 0, 1) := by decide +kernel
theorem dX3_copyFrom_35 : decode cX3_copyFrom 35 = .ok (.getfield 24, 3) := by decide +kernel
theorem dX3_copyFrom_38 : decode cX3_copyFrom 38 = .ok (.iload_n 2, 1) := by decide +kernel
theorem dX3_copyFrom_39 : decode cX3_copyFrom 39 = .ok (.aload_n 1, 1) := by decide +kernel
theorem dX3_copyFrom_40 : decode cX3_copyFrom 40 = .ok (.getfield 24, 3) := by decide +kernel
theorem dX3_copyFrom_43 : decode cX3_copyFrom 43 = .ok (.iload_n 2, 1) := by decide +kernel
theorem dX3_copyFrom_44 : decode cX3_copyFrom 44 = .ok (.iaload, 1) := by decide +kernel
theorem dX3_copyFrom_45 : decode cX3_copyFrom 45 = .ok (.iastore, 1) := by decide +kernel
theorem dX3_copyFrom_46 : decode cX3_copyFrom 46 = .ok (.aload_n 0, 1) := by decide +kernel
theorem dX3_copyFrom_47 : decode cX3_copyFrom 47 = .ok (.getfield 28, 3) := by decide +kernel
theorem dX3_copyFrom_50 : decode cX3_copyFrom 50 = .ok (.iload_n 2, 1) := by decide +kernel
theorem dX3_copyFrom_51 : decode cX3_copyFrom 51 = .ok (.aload_n 1, 1) := by decide +kernel
theorem dX3_copyFrom_52 : decode cX3_copyFrom 52 = .ok (.getfield 28, 3) := by decide +kernel
theorem dX3_copyFrom_55 : decode cX3_copyFrom 55 = .ok (.iload_n 2, 1) := by decide +kernel
theorem dX3_copyFrom_56 : decode cX3_copyFrom 56 = .ok (.iaload, 1) := by decide +kernel
theorem dX3_copyFrom_57 : decode cX3_copyFrom 57 = .ok (.iastore, 1) := by decide +kernel
theorem dX3_copyFrom_58 : decode cX3_copyFrom 58 = .ok (.aload_n 0, 1) := by decide +kernel
theorem dX3_copyFrom_59 : decode cX3_copyFrom 59 = .ok (.getfield 31, 3) := by decide +kernel
theorem dX3_copyFrom_62 : decode cX3_copyFrom 62 = .ok (.iload_n 2, 1) := by decide +kernel
theorem dX3_copyFrom_63 : decode cX3_copyFrom 63 = .ok (.aload_n 1, 1) := by decide +kernel
theorem dX3_copyFrom_64 : decode cX3_copyFrom 64 = .ok (.getfield 31, 3) := by decide +kernel
theorem dX3_copyFrom_67 : decode cX3_copyFrom 67 = .ok (.iload_n 2, 1) := by decide +kernel
theorem dX3_copyFrom_68 : decode cX3_copyFrom 68 = .ok (.iaload, 1) := by decide +kernel
theorem dX3_copyFrom_69 : decode cX3_copyFrom 69 = .ok (.iastore, 1) := by decide +kernel
theorem dX3_copyFrom_70 : decode cX3_copyFrom 70 = .ok (.iinc 2 1, 3) := by decide +kernel
theorem dX3_copyFrom_73 : decode cX3_copyFrom 73 = .ok (.goto (-60), 3) := by decide +kernel
theorem dX3_copyFrom_76 : decode cX3_copyFrom 76 = .ok (.aload_n 0, 1) := by decide +kernel
theorem dX3_copyFrom_77 : decode cX3_copyFrom 77 = .ok (.aload_n 1, 1) := by decide +kernel
theorem dX3_copyFrom_78 : decode cX3_copyFrom 78 = .ok (.getfield 43, 3) := by decide +kernel
theorem dX3_copyFrom_81 : decode cX3_copyFrom 81 = .ok (.putfield 43, 3) := by decide +kernel
theorem dX3_copyFrom_84 : decode cX3_copyFrom 84 = .ok (.aload_n 0, 1) := by decide +kernel
theorem dX3_copyFrom_85 : decode cX3_copyFrom 85 = .ok (.aload_n 1, 1) := by decide +kernel
theorem dX3_copyFrom_86 : decode cX3_copyFrom 86 = .ok (.getfield 34, 3) := by decide +kernel
theorem dX3_copyFrom_89 : decode cX3_copyFrom 89 = .ok (.putfield 34, 3) := by decide +kernel
theorem dX3_copyFrom_92 : decode cX3_copyFrom 92 = .ok (.aload_n 0, 1) := by decide +kernel
theorem dX3_copyFrom_93 : decode cX3_copyFrom 93 = .ok (.aload_n 1, 1) := by decide +kernel
theorem dX3_copyFrom_94 : decode cX3_copyFrom 94 = .ok (.getfield 46, 3) := by decide +kernel
theorem dX3_copyFrom_97 : decode cX3_copyFrom 97 = .ok (.putfield 46, 3) := by decide +kernel
theorem dX3_copyFrom_100 : decode cX3_copyFrom 100 = .ok (.aload_n 0, 1) := by decide +kernel
theorem dX3_copyFrom_101 : decode cX3_copyFrom 101 = .ok (.aload_n 1, 1) := by decide +kernel
theorem dX3_copyFrom_102 : decode cX3_copyFrom 102 = .ok (.getfield 49, 3) := by decide +kernel
theorem dX3_copyFrom_105 : decode cX3_copyFrom 105 = .ok (.putfield 49, 3) := by decide +kernel
theorem dX3_copyFrom_108 : decode cX3_copyFrom 108 = .ok (.aload_n 0, 1) := by decide +kernel
theorem dX3_copyFrom_109 : decode cX3_copyFrom 109 = .ok (.aload_n 1, 1) := by decide +kernel
theorem dX3_copyFrom_110 : decode cX3_copyFrom 110 = .ok (.getfield 52, 3) := by decide +kernel
theorem dX3_copyFrom_113 : decode cX3_copyFrom 113 = .ok (.putfield 52, 3) := by decide +kernel
theorem dX3_copyFrom_116 : decode cX3_copyFrom 116 = .ok (.aload_n 0, 1) := by decide +kernel
theorem dX3_copyFrom_117 : decode cX3_copyFrom 117 = .ok (.aload_n 1, 1) := by decide +kernel
theorem dX3_copyFrom_118 : decode cX3_copyFrom 118 = .ok (.getfield 55, 3) := by decide +kernel
theorem dX3_copyFrom_121 : decode cX3_copyFrom 121 = .ok (.putfield 55, 3) := by decide +kernel
theorem dX3_copyFrom_124 : decode cX3_copyFrom 124 = .ok (.aload_n 0, 1) := by decide +kernel
theorem dX3_copyFrom_125 : decode cX3_copyFrom 125 = .ok (.aload_n 1, 1) := by decide +kernel
theorem dX3_copyFrom_126 : decode cX3_copyFrom 126 = .ok (.getfield 58, 3) := by decide +kernel
theorem dX3_copyFrom_129 : decode cX3_copyFrom 129 = .ok (.putfield 58, 3) := by decide +kernel
theorem dX3_copyFrom_132 : decode cX3_copyFrom 132 = .ok (.return_, 1) := by decide +kernel
theorem dX3_roundsAndLetGo_0 : decode cX3_roundsAndLetGo 0 = .ok (.aload_n 0, 1) := by decide +kernel
theorem dX3_roundsAndLetGo_1 : decode cX3_roundsAndLetGo 1 = .ok (.getfield 52, 3) := by decide +kernel
theorem dX3_roundsAndLetGo_4 : decode cX3_roundsAndLetGo 4 = .ok (.aload_n 0, 1) := by decide +kernel
theorem dX3_roundsAndLetGo_5 : decode cX3_roundsAndLetGo 5 = .ok (.getfield 55, 3) := by decide +kernel
theorem dX3_roundsAndLetGo_8 : decode cX3_roundsAndLetGo 8 = .ok (.iadd, 1) := by decide +kernel
theorem dX3_roundsAndLetGo_9 : decode cX3_roundsAndLetGo 9 = .ok (.ireturn, 1) := by decide +kernel
theorem dX3_eventsThatWait_0 : decode cX3_eventsThatWait 0 = .ok (.iconst 0, 1) := by decide +kernel
theorem dX3_eventsThatWait_1 : decode cX3_eventsThatWait 1 = .ok (.istore_n 1, 1) := by decide +kernel
theorem dX3_eventsThatWait_2 : decode cX3_eventsThatWait 2 = .ok (.iconst 0, 1) := by decide +kernel
theorem dX3_eventsThatWait_3 : decode cX3_eventsThatWait 3 = .ok (.istore_n 2, 1) := by decide +kernel
theorem dX3_eventsThatWait_4 : decode cX3_eventsThatWait 4 = .ok (.iload_n 2, 1) := by decide +kernel
theorem dX3_eventsThatWait_5 : decode cX3_eventsThatWait 5 = .ok (.aload_n 0, 1) := by decide +kernel
theorem dX3_eventsThatWait_6 : decode cX3_eventsThatWait 6 = .ok (.getfield 43, 3) := by decide +kernel
theorem dX3_eventsThatWait_9 : decode cX3_eventsThatWait 9 = .ok (.if_icmp .ge 21, 3) := by decide +kernel
theorem dX3_eventsThatWait_12 : decode cX3_eventsThatWait 12 = .ok (.iload_n 1, 1) := by decide +kernel
theorem dX3_eventsThatWait_13 : decode cX3_eventsThatWait 13 = .ok (.aload_n 0, 1) := by decide +kernel
theorem dX3_eventsThatWait_14 : decode cX3_eventsThatWait 14 = .ok (.getfield 20, 3) := by decide +kernel
theorem dX3_eventsThatWait_17 : decode cX3_eventsThatWait 17 = .ok (.iload_n 2, 1) := by decide +kernel
theorem dX3_eventsThatWait_18 : decode cX3_eventsThatWait 18 = .ok (.aaload, 1) := by decide +kernel
theorem dX3_eventsThatWait_19 : decode cX3_eventsThatWait 19 = .ok (.getfield 42, 3) := by decide +kernel
theorem dX3_eventsThatWait_22 : decode cX3_eventsThatWait 22 = .ok (.iadd, 1) := by decide +kernel
theorem dX3_eventsThatWait_23 : decode cX3_eventsThatWait 23 = .ok (.istore_n 1, 1) := by decide +kernel
theorem dX3_eventsThatWait_24 : decode cX3_eventsThatWait 24 = .ok (.iinc 2 1, 3) := by decide +kernel
theorem dX3_eventsThatWait_27 : decode cX3_eventsThatWait 27 = .ok (.goto (-23), 3) := by decide +kernel
theorem dX3_eventsThatWait_30 : decode cX3_eventsThatWait 30 = .ok (.iload_n 1, 1) := by decide +kernel
theorem dX3_eventsThatWait_31 : decode cX3_eventsThatWait 31 = .ok (.ireturn, 1) := by decide +kernel
theorem dX3_partOfLeastTime_0 : decode cX3_partOfLeastTime 0 = .ok (.iconst 0, 1) := by decide +kernel
theorem dX3_partOfLeastTime_1 : decode cX3_partOfLeastTime 1 = .ok (.istore_n 1, 1) := by decide +kernel
theorem dX3_partOfLeastTime_2 : decode cX3_partOfLeastTime 2 = .ok (.iconst 1, 1) := by decide +kernel
theorem dX3_partOfLeastTime_3 : decode cX3_partOfLeastTime 3 = .ok (.istore_n 2, 1) := by decide +kernel
theorem dX3_partOfLeastTime_4 : decode cX3_partOfLeastTime 4 = .ok (.iload_n 2, 1) := by decide +kernel
theorem dX3_partOfLeastTime_5 : decode cX3_partOfLeastTime 5 = .ok (.aload_n 0, 1) := by decide +kernel
theorem dX3_partOfLeastTime_6 : decode cX3_partOfLeastTime 6 = .ok (.getfield 43, 3) := by decide +kernel
theorem dX3_partOfLeastTime_9 : decode cX3_partOfLeastTime 9 = .ok (.if_icmp .ge 32, 3) := by decide +kernel
theorem dX3_partOfLeastTime_12 : decode cX3_partOfLeastTime 12 = .ok (.aload_n 0, 1) := by decide +kernel
theorem dX3_partOfLeastTime_13 : decode cX3_partOfLeastTime 13 = .ok (.getfield 20, 3) := by decide +kernel
theorem dX3_partOfLeastTime_16 : decode cX3_partOfLeastTime 16 = .ok (.iload_n 2, 1) := by decide +kernel
theorem dX3_partOfLeastTime_17 : decode cX3_partOfLeastTime 17 = .ok (.aaload, 1) := by decide +kernel
theorem dX3_partOfLeastTime_18 : decode cX3_partOfLeastTime 18 = .ok (.invokevirtual 68, 3) := by decide +kernel
theorem dX3_partOfLeastTime_21 : decode cX3_partOfLeastTime 21 = .ok (.aload_n 0, 1) := by decide +kernel
theorem dX3_partOfLeastTime_22 : decode cX3_partOfLeastTime 22 = .ok (.getfield 20, 3) := by decide +kernel
theorem dX3_partOfLeastTime_25 : decode cX3_partOfLeastTime 25 = .ok (.iload_n 1, 1) := by decide +kernel
theorem dX3_partOfLeastTime_26 : decode cX3_partOfLeastTime 26 = .ok (.aaload, 1) := by decide +kernel
theorem dX3_partOfLeastTime_27 : decode cX3_partOfLeastTime 27 = .ok (.invokevirtual 68, 3) := by decide +kernel
theorem dX3_partOfLeastTime_30 : decode cX3_partOfLeastTime 30 = .ok (.if_icmp .ge 5, 3) := by decide +kernel
theorem dX3_partOfLeastTime_33 : decode cX3_partOfLeastTime 33 = .ok (.iload_n 2, 1) := by decide +kernel
theorem dX3_partOfLeastTime_34 : decode cX3_partOfLeastTime 34 = .ok (.istore_n 1, 1) := by decide +kernel
theorem dX3_partOfLeastTime_35 : decode cX3_partOfLeastTime 35 = .ok (.iinc 2 1, 3) := by decide +kernel
theorem dX3_partOfLeastTime_38 : decode cX3_partOfLeastTime 38 = .ok (.goto (-34), 3) := by decide +kernel
theorem dX3_partOfLeastTime_41 : decode cX3_partOfLeastTime 41 = .ok (.iload_n 1, 1) := by decide +kernel
theorem dX3_partOfLeastTime_42 : decode cX3_partOfLeastTime 42 = .ok (.ireturn, 1) := by decide +kernel
theorem dX3_leastTime_0 : decode cX3_leastTime 0 = .ok (.aload_n 0, 1) := by decide +kernel
theorem dX3_leastTime_1 : decode cX3_leastTime 1 = .ok (.getfield 20, 3) := by decide +kernel
theorem dX3_leastTime_4 : decode cX3_leastTime 4 = .ok (.aload_n 0, 1) := by decide +kernel
theorem dX3_leastTime_5 : decode cX3_leastTime 5 = .ok (.invokevirtual 72, 3) := by decide +kernel
theorem dX3_leastTime_8 : decode cX3_leastTime 8 = .ok (.aaload, 1) := by decide +kernel
theorem dX3_leastTime_9 : decode cX3_leastTime 9 = .ok (.invokevirtual 68, 3) := by decide +kernel
theorem dX3_leastTime_12 : decode cX3_leastTime 12 = .ok (.ireturn, 1) := by decide +kernel
theorem dX3_safeOf_0 : decode cX3_safeOf 0 = .ok (.aload_n 0, 1) := by decide +kernel
theorem dX3_safeOf_1 : decode cX3_safeOf 1 = .ok (.getfield 12, 3) := by decide +kernel
theorem dX3_safeOf_4 : decode cX3_safeOf 4 = .ok (.iload_n 1, 1) := by decide +kernel
theorem dX3_safeOf_5 : decode cX3_safeOf 5 = .ok (.invokevirtual 75, 3) := by decide +kernel
theorem dX3_safeOf_8 : decode cX3_safeOf 8 = .ok (.istore_n 2, 1) := by decide +kernel
theorem dX3_safeOf_9 : decode cX3_safeOf 9 = .ok (.iload_n 2, 1) := by decide +kernel
theorem dX3_safeOf_10 : decode cX3_safeOf 10 = .ok (.iconst (-1), 1) := by decide +kernel
theorem dX3_safeOf_11 : decode cX3_safeOf 11 = .ok (.if_icmp .ne 8, 3) := by decide +kernel
theorem dX3_safeOf_14 : decode cX3_safeOf 14 = .ok (.ldc 79, 2) := by decide +kernel
theorem dX3_safeOf_16 : decode cX3_safeOf 16 = .ok (.goto 12, 3) := by decide +kernel
theorem dX3_safeOf_19 : decode cX3_safeOf 19 = .ok (.aload_n 0, 1) := by decide +kernel
theorem dX3_safeOf_20 : decode cX3_safeOf 20 = .ok (.getfield 12, 3) := by decide +kernel
theorem dX3_safeOf_23 : decode cX3_safeOf 23 = .ok (.getfield 80, 3) := by decide +kernel
theorem dX3_safeOf_26 : decode cX3_safeOf 26 = .ok (.iload_n 2, 1) := by decide +kernel
theorem dX3_safeOf_27 : decode cX3_safeOf 27 = .ok (.iaload, 1) := by decide +kernel
theorem dX3_safeOf_28 : decode cX3_safeOf 28 = .ok (.ireturn, 1) := by decide +kernel
theorem dX3_mayWork_0 : decode cX3_mayWork 0 = .ok (.aload_n 0, 1) := by decide +kernel
theorem dX3_mayWork_1 : decode cX3_mayWork 1 = .ok (.getfield 20, 3) := by decide +kernel
theorem dX3_mayWork_4 : decode cX3_mayWork 4 = .ok (.iload_n 1, 1) := by decide +kernel
theorem dX3_mayWork_5 : decode cX3_mayWork 5 = .ok (.aaload, 1) := by decide +kernel
theorem dX3_mayWork_6 : decode cX3_mayWork 6 = .ok (.invokevirtual 68, 3) := by decide +kernel
theorem dX3_mayWork_9 : decode cX3_mayWork 9 = .ok (.aload_n 0, 1) := by decide +kernel
theorem dX3_mayWork_10 : decode cX3_mayWork 10 = .ok (.iload_n 1, 1) := by decide +kernel
theorem dX3_mayWork_11 : decode cX3_mayWork 11 = .ok (.invokevirtual 83, 3) := by decide +kernel
theorem dX3_mayWork_14 : decode cX3_mayWork 14 = .ok (.if_icmp .ge 7, 3) := by decide +kernel
theorem dX3_mayWork_17 : decode cX3_mayWork 17 = .ok (.iconst 1, 1) := by decide +kernel
theorem dX3_mayWork_18 : decode cX3_mayWork 18 = .ok (.goto 4, 3) := by decide +kernel
theorem dX3_mayWork_21 : decode cX3_mayWork 21 = .ok (.iconst 0, 1) := by decide +kernel
theorem dX3_mayWork_22 : decode cX3_mayWork 22 = .ok (.ireturn, 1) := by decide +kernel
theorem dX3_partsThatMay_0 : decode cX3_partsThatMay 0 = .ok (.iconst 0, 1) := by decide +kernel
theorem dX3_partsThatMay_1 : decode cX3_partsThatMay 1 = .ok (.istore_n 1, 1) := by decide +kernel
theorem dX3_partsThatMay_2 : decode cX3_partsThatMay 2 = .ok (.iconst 0, 1) := by decide +kernel
theorem dX3_partsThatMay_3 : decode cX3_partsThatMay 3 = .ok (.istore_n 2, 1) := by decide +kernel
theorem dX3_partsThatMay_4 : decode cX3_partsThatMay 4 = .ok (.iload_n 2, 1) := by decide +kernel
theorem dX3_partsThatMay_5 : decode cX3_partsThatMay 5 = .ok (.aload_n 0, 1) := by decide +kernel
theorem dX3_partsThatMay_6 : decode cX3_partsThatMay 6 = .ok (.getfield 43, 3) := by decide +kernel
theorem dX3_partsThatMay_9 : decode cX3_partsThatMay 9 = .ok (.if_icmp .ge 23, 3) := by decide +kernel
theorem dX3_partsThatMay_12 : decode cX3_partsThatMay 12 = .ok (.aload_n 0, 1) := by decide +kernel
theorem dX3_partsThatMay_13 : decode cX3_partsThatMay 13 = .ok (.iload_n 2, 1) := by decide +kernel
theorem dX3_partsThatMay_14 : decode cX3_partsThatMay 14 = .ok (.invokevirtual 86, 3) := by decide +kernel
theorem dX3_partsThatMay_17 : decode cX3_partsThatMay 17 = .ok (.ifCond .eq 9, 3) := by decide +kernel
theorem dX3_partsThatMay_20 : decode cX3_partsThatMay 20 = .ok (.iload_n 1, 1) := by decide +kernel
theorem dX3_partsThatMay_21 : decode cX3_partsThatMay 21 = .ok (.iconst 1, 1) := by decide +kernel
theorem dX3_partsThatMay_22 : decode cX3_partsThatMay 22 = .ok (.iload_n 2, 1) := by decide +kernel
theorem dX3_partsThatMay_23 : decode cX3_partsThatMay 23 = .ok (.ishl, 1) := by decide +kernel
theorem dX3_partsThatMay_24 : decode cX3_partsThatMay 24 = .ok (.ior, 1) := by decide +kernel
theorem dX3_partsThatMay_25 : decode cX3_partsThatMay 25 = .ok (.istore_n 1, 1) := by decide +kernel
theorem dX3_partsThatMay_26 : decode cX3_partsThatMay 26 = .ok (.iinc 2 1, 3) := by decide +kernel
theorem dX3_partsThatMay_29 : decode cX3_partsThatMay 29 = .ok (.goto (-25), 3) := by decide +kernel
theorem dX3_partsThatMay_32 : decode cX3_partsThatMay 32 = .ok (.iload_n 1, 1) := by decide +kernel
theorem dX3_partsThatMay_33 : decode cX3_partsThatMay 33 = .ok (.ireturn, 1) := by decide +kernel
theorem dX3_channelWaitedFor_0 : decode cX3_channelWaitedFor 0 = .ok (.aload_n 0, 1) := by decide +kernel
theorem dX3_channelWaitedFor_1 : decode cX3_channelWaitedFor 1 = .ok (.getfield 12, 3) := by decide +kernel
theorem dX3_channelWaitedFor_4 : decode cX3_channelWaitedFor 4 = .ok (.iload_n 1, 1) := by decide +kernel
theorem dX3_channelWaitedFor_5 : decode cX3_channelWaitedFor 5 = .ok (.invokevirtual 75, 3) := by decide +kernel
theorem dX3_channelWaitedFor_8 : decode cX3_channelWaitedFor 8 = .ok (.istore_n 2, 1) := by decide +kernel
theorem dX3_channelWaitedFor_9 : decode cX3_channelWaitedFor 9 = .ok (.iload_n 2, 1) := by decide +kernel
theorem dX3_channelWaitedFor_10 : decode cX3_channelWaitedFor 10 = .ok (.iconst (-1), 1) := by decide +kernel
theorem dX3_channelWaitedFor_11 : decode cX3_channelWaitedFor 11 = .ok (.if_icmp .eq 36, 3) := by decide +kernel
theorem dX3_channelWaitedFor_14 : decode cX3_channelWaitedFor 14 = .ok (.aload_n 0, 1) := by decide +kernel
theorem dX3_channelWaitedFor_15 : decode cX3_channelWaitedFor 15 = .ok (.getfield 20, 3) := by decide +kernel
theorem dX3_channelWaitedFor_18 : decode cX3_channelWaitedFor 18 = .ok (.iload_n 1, 1) := by decide +kernel
theorem dX3_channelWaitedFor_19 : decode cX3_channelWaitedFor 19 = .ok (.aaload, 1) := by decide +kernel
theorem dX3_channelWaitedFor_20 : decode cX3_channelWaitedFor 20 = .ok (.getfield 42, 3) := by decide +kernel
theorem dX3_channelWaitedFor_23 : decode cX3_channelWaitedFor 23 = .ok (.ifCond .eq 24, 3) := by decide +kernel
theorem dX3_channelWaitedFor_26 : decode cX3_channelWaitedFor 26 = .ok (.aload_n 0, 1) := by decide +kernel
theorem dX3_channelWaitedFor_27 : decode cX3_channelWaitedFor 27 = .ok (.getfield 20, 3) := by decide +kernel
theorem dX3_channelWaitedFor_30 : decode cX3_channelWaitedFor 30 = .ok (.iload_n 1, 1) := by decide +kernel
theorem dX3_channelWaitedFor_31 : decode cX3_channelWaitedFor 31 = .ok (.aaload, 1) := by decide +kernel
theorem dX3_channelWaitedFor_32 : decode cX3_channelWaitedFor 32 = .ok (.invokevirtual 68, 3) := by decide +kernel
theorem dX3_channelWaitedFor_35 : decode cX3_channelWaitedFor 35 = .ok (.aload_n 0, 1) := by decide +kernel
theorem dX3_channelWaitedFor_36 : decode cX3_channelWaitedFor 36 = .ok (.getfield 12, 3) := by decide +kernel
theorem dX3_channelWaitedFor_39 : decode cX3_channelWaitedFor 39 = .ok (.getfield 80, 3) := by decide +kernel
theorem dX3_channelWaitedFor_42 : decode cX3_channelWaitedFor 42 = .ok (.iload_n 2, 1) := by decide +kernel
theorem dX3_channelWaitedFor_43 : decode cX3_channelWaitedFor 43 = .ok (.iaload, 1) := by decide +kernel
theorem dX3_channelWaitedFor_44 : decode cX3_channelWaitedFor 44 = .ok (.if_icmp .ge 5, 3) := by decide +kernel
theorem dX3_channelWaitedFor_47 : decode cX3_channelWaitedFor 47 = .ok (.iconst (-1), 1) := by decide +kernel
theorem dX3_channelWaitedFor_48 : decode cX3_channelWaitedFor 48 = .ok (.ireturn, 1) := by decide +kernel
theorem dX3_channelWaitedFor_49 : decode cX3_channelWaitedFor 49 = .ok (.iload_n 2, 1) := by decide +kernel
theorem dX3_channelWaitedFor_50 : decode cX3_channelWaitedFor 50 = .ok (.ireturn, 1) := by decide +kernel
theorem dX3_hasWorkedAtOrBehind_0 : decode cX3_hasWorkedAtOrBehind 0 = .ok (.aload_n 0, 1) := by decide +kernel
theorem dX3_hasWorkedAtOrBehind_1 : decode cX3_hasWorkedAtOrBehind 1 = .ok (.getfield 24, 3) := by decide +kernel
theorem dX3_hasWorkedAtOrBehind_4 : decode cX3_hasWorkedAtOrBehind 4 = .ok (.iload_n 1, 1) := by decide +kernel
theorem dX3_hasWorkedAtOrBehind_5 : decode cX3_hasWorkedAtOrBehind 5 = .ok (.iaload, 1) := by decide +kernel
theorem dX3_hasWorkedAtOrBehind_6 : decode cX3_hasWorkedAtOrBehind 6 = .ok (.ifCond .le 17, 3) := by decide +kernel
theorem dX3_hasWorkedAtOrBehind_9 : decode cX3_hasWorkedAtOrBehind 9 = .ok (.aload_n 0, 1) := by decide +kernel
theorem dX3_hasWorkedAtOrBehind_10 : decode cX3_hasWorkedAtOrBehind 10 = .ok (.getfield 31, 3) := by decide +kernel
theorem dX3_hasWorkedAtOrBehind_13 : decode cX3_hasWorkedAtOrBehind 13 = .ok (.iload_n 1, 1) := by decide +kernel
theorem dX3_hasWorkedAtOrBehind_14 : decode cX3_hasWorkedAtOrBehind 14 = .ok (.iaload, 1) := by decide +kernel
theorem dX3_hasWorkedAtOrBehind_15 : decode cX3_hasWorkedAtOrBehind 15 = .ok (.iload_n 2, 1) := by decide +kernel
theorem dX3_hasWorkedAtOrBehind_16 : decode cX3_hasWorkedAtOrBehind 16 = .ok (.if_icmp .lt 7, 3) := by decide +kernel
theorem dX3_hasWorkedAtOrBehind_19 : decode cX3_hasWorkedAtOrBehind 19 = .ok (.iconst 1, 1) := by decide +kernel
theorem dX3_hasWorkedAtOrBehind_20 : decode cX3_hasWorkedAtOrBehind 20 = .ok (.goto 4, 3) := by decide +kernel
theorem dX3_hasWorkedAtOrBehind_23 : decode cX3_hasWorkedAtOrBehind 23 = .ok (.iconst 0, 1) := by decide +kernel
theorem dX3_hasWorkedAtOrBehind_24 : decode cX3_hasWorkedAtOrBehind 24 = .ok (.ireturn, 1) := by decide +kernel
theorem dX3_tellByHand_0 : decode cX3_tellByHand 0 = .ok (.aload_n 0, 1) := by decide +kernel
theorem dX3_tellByHand_1 : decode cX3_tellByHand 1 = .ok (.getfield 20, 3) := by decide +kernel
theorem dX3_tellByHand_4 : decode cX3_tellByHand 4 = .ok (.iload_n 1, 1) := by decide +kernel
theorem dX3_tellByHand_5 : decode cX3_tellByHand 5 = .ok (.aaload, 1) := by decide +kernel
theorem dX3_tellByHand_6 : decode cX3_tellByHand 6 = .ok (.iload_n 2, 1) := by decide +kernel
theorem dX3_tellByHand_7 : decode cX3_tellByHand 7 = .ok (.iload_n 3, 1) := by decide +kernel
theorem dX3_tellByHand_8 : decode cX3_tellByHand 8 = .ok (.iconst (-1), 1) := by decide +kernel
theorem dX3_tellByHand_9 : decode cX3_tellByHand 9 = .ok (.invokevirtual 90, 3) := by decide +kernel
theorem dX3_tellByHand_12 : decode cX3_tellByHand 12 = .ok (.aload_n 0, 1) := by decide +kernel
theorem dX3_tellByHand_13 : decode cX3_tellByHand 13 = .ok (.dup, 1) := by decide +kernel
theorem dX3_tellByHand_14 : decode cX3_tellByHand 14 = .ok (.getfield 58, 3) := by decide +kernel
theorem dX3_tellByHand_17 : decode cX3_tellByHand 17 = .ok (.iconst 1, 1) := by decide +kernel
theorem dX3_tellByHand_18 : decode cX3_tellByHand 18 = .ok (.iadd, 1) := by decide +kernel
theorem dX3_tellByHand_19 : decode cX3_tellByHand 19 = .ok (.putfield 58, 3) := by decide +kernel
theorem dX3_tellByHand_22 : decode cX3_tellByHand 22 = .ok (.aload_n 0, 1) := by decide +kernel
theorem dX3_tellByHand_23 : decode cX3_tellByHand 23 = .ok (.getfield 20, 3) := by decide +kernel
theorem dX3_tellByHand_26 : decode cX3_tellByHand 26 = .ok (.iload_n 1, 1) := by decide +kernel
theorem dX3_tellByHand_27 : decode cX3_tellByHand 27 = .ok (.aaload, 1) := by decide +kernel
theorem dX3_tellByHand_28 : decode cX3_tellByHand 28 = .ok (.getfield 42, 3) := by decide +kernel
theorem dX3_tellByHand_31 : decode cX3_tellByHand 31 = .ok (.ireturn, 1) := by decide +kernel
theorem dX3_workOnFirst_0 : decode cX3_workOnFirst 0 = .ok (.aload_n 0, 1) := by decide +kernel
theorem dX3_workOnFirst_1 : decode cX3_workOnFirst 1 = .ok (.getfield 20, 3) := by decide +kernel
theorem dX3_workOnFirst_4 : decode cX3_workOnFirst 4 = .ok (.iload_n 1, 1) := by decide +kernel
theorem dX3_workOnFirst_5 : decode cX3_workOnFirst 5 = .ok (.aaload, 1) := by decide +kernel
theorem dX3_workOnFirst_6 : decode cX3_workOnFirst 6 = .ok (.astore_n 2, 1) := by decide +kernel
theorem dX3_workOnFirst_7 : decode cX3_workOnFirst 7 = .ok (.aload_n 2, 1) := by decide +kernel
theorem dX3_workOnFirst_8 : decode cX3_workOnFirst 8 = .ok (.getfield 42, 3) := by decide +kernel
theorem dX3_workOnFirst_11 : decode cX3_workOnFirst 11 = .ok (.ifCond .ne 4, 3) := by decide +kernel
theorem dX3_workOnFirst_14 : decode cX3_workOnFirst 14 = .ok (.return_, 1) := by decide +kernel
theorem dX3_workOnFirst_15 : decode cX3_workOnFirst 15 = .ok (.aload_n 2, 1) := by decide +kernel
theorem dX3_workOnFirst_16 : decode cX3_workOnFirst 16 = .ok (.invokevirtual 68, 3) := by decide +kernel
theorem dX3_workOnFirst_19 : decode cX3_workOnFirst 19 = .ok (.istore_n 3, 1) := by decide +kernel
theorem dX3_workOnFirst_20 : decode cX3_workOnFirst 20 = .ok (.aload_n 2, 1) := by decide +kernel
theorem dX3_workOnFirst_21 : decode cX3_workOnFirst 21 = .ok (.invokevirtual 94, 3) := by decide +kernel
theorem dX3_workOnFirst_24 : decode cX3_workOnFirst 24 = .ok (.istore 4, 2) := by decide +kernel
theorem dX3_workOnFirst_26 : decode cX3_workOnFirst 26 = .ok (.aload_n 2, 1) := by decide +kernel
theorem dX3_workOnFirst_27 : decode cX3_workOnFirst 27 = .ok (.invokevirtual 97, 3) := by decide +kernel
theorem dX3_workOnFirst_30 : decode cX3_workOnFirst 30 = .ok (.aload_n 0, 1) := by decide +kernel
theorem dX3_workOnFirst_31 : decode cX3_workOnFirst 31 = .ok (.getfield 24, 3) := by decide +kernel
theorem dX3_workOnFirst_34 : decode cX3_workOnFirst 34 = .ok (.iload_n 1, 1) := by decide +kernel
theorem dX3_workOnFirst_35 : decode cX3_workOnFirst 35 = .ok (.dup2, 1) := by decide +kernel
theorem dX3_workOnFirst_36 : decode cX3_workOnFirst 36 = .ok (.iaload, 1) := by decide +kernel
theorem dX3_workOnFirst_37 : decode cX3_workOnFirst 37 = .ok (.iconst 1, 1) := by decide +kernel
theorem dX3_workOnFirst_38 : decode cX3_workOnFirst 38 = .ok (.iadd, 1) := by decide +kernel
theorem dX3_workOnFirst_39 : decode cX3_workOnFirst 39 = .ok (.iastore, 1) := by decide +kernel
theorem dX3_workOnFirst_40 : decode cX3_workOnFirst 40 = .ok (.aload_n 0, 1) := by decide +kernel
theorem dX3_workOnFirst_41 : decode cX3_workOnFirst 41 = .ok (.getfield 28, 3) := by decide +kernel
theorem dX3_workOnFirst_44 : decode cX3_workOnFirst 44 = .ok (.iload_n 1, 1) := by decide +kernel
theorem dX3_workOnFirst_45 : decode cX3_workOnFirst 45 = .ok (.bipush 31, 2) := by decide +kernel
theorem dX3_workOnFirst_47 : decode cX3_workOnFirst 47 = .ok (.aload_n 0, 1) := by decide +kernel
theorem dX3_workOnFirst_48 : decode cX3_workOnFirst 48 = .ok (.getfield 28, 3) := by decide +kernel
theorem dX3_workOnFirst_51 : decode cX3_workOnFirst 51 = .ok (.iload_n 1, 1) := by decide +kernel
theorem dX3_workOnFirst_52 : decode cX3_workOnFirst 52 = .ok (.iaload, 1) := by decide +kernel
theorem dX3_workOnFirst_53 : decode cX3_workOnFirst 53 = .ok (.imul, 1) := by decide +kernel
theorem dX3_workOnFirst_54 : decode cX3_workOnFirst 54 = .ok (.iload 4, 2) := by decide +kernel
theorem dX3_workOnFirst_56 : decode cX3_workOnFirst 56 = .ok (.iadd, 1) := by decide +kernel
theorem dX3_workOnFirst_57 : decode cX3_workOnFirst 57 = .ok (.iload_n 3, 1) := by decide +kernel
theorem dX3_workOnFirst_58 : decode cX3_workOnFirst 58 = .ok (.iadd, 1) := by decide +kernel
theorem dX3_workOnFirst_59 : decode cX3_workOnFirst 59 = .ok (.ldc 100, 2) := by decide +kernel
theorem dX3_workOnFirst_61 : decode cX3_workOnFirst 61 = .ok (.irem, 1) := by decide +kernel
theorem dX3_workOnFirst_62 : decode cX3_workOnFirst 62 = .ok (.iastore, 1) := by decide +kernel
theorem dX3_workOnFirst_63 : decode cX3_workOnFirst 63 = .ok (.aload_n 0, 1) := by decide +kernel
theorem dX3_workOnFirst_64 : decode cX3_workOnFirst 64 = .ok (.getfield 31, 3) := by decide +kernel
theorem dX3_workOnFirst_67 : decode cX3_workOnFirst 67 = .ok (.iload_n 1, 1) := by decide +kernel
theorem dX3_workOnFirst_68 : decode cX3_workOnFirst 68 = .ok (.iload_n 3, 1) := by decide +kernel
theorem dX3_workOnFirst_69 : decode cX3_workOnFirst 69 = .ok (.iastore, 1) := by decide +kernel
theorem dX3_workOnFirst_70 : decode cX3_workOnFirst 70 = .ok (.aload_n 0, 1) := by decide +kernel
theorem dX3_workOnFirst_71 : decode cX3_workOnFirst 71 = .ok (.dup, 1) := by decide +kernel
theorem dX3_workOnFirst_72 : decode cX3_workOnFirst 72 = .ok (.getfield 46, 3) := by decide +kernel
theorem dX3_workOnFirst_75 : decode cX3_workOnFirst 75 = .ok (.iconst 1, 1) := by decide +kernel
theorem dX3_workOnFirst_76 : decode cX3_workOnFirst 76 = .ok (.iadd, 1) := by decide +kernel
theorem dX3_workOnFirst_77 : decode cX3_workOnFirst 77 = .ok (.putfield 46, 3) := by decide +kernel
theorem dX3_workOnFirst_80 : decode cX3_workOnFirst 80 = .ok (.aload_n 0, 1) := by decide +kernel
theorem dX3_workOnFirst_81 : decode cX3_workOnFirst 81 = .ok (.iload_n 1, 1) := by decide +kernel
theorem dX3_workOnFirst_82 : decode cX3_workOnFirst 82 = .ok (.iload_n 3, 1) := by decide +kernel
theorem dX3_workOnFirst_83 : decode cX3_workOnFirst 83 = .ok (.iload 4, 2) := by decide +kernel
theorem dX3_workOnFirst_85 : decode cX3_workOnFirst 85 = .ok (.invokevirtual 101, 3) := by decide +kernel
theorem dX3_workOnFirst_88 : decode cX3_workOnFirst 88 = .ok (.return_, 1) := by decide +kernel
theorem dX3_sendLetter_0 : decode cX3_sendLetter 0 = .ok (.aload_n 0, 1) := by decide +kernel
theorem dX3_sendLetter_1 : decode cX3_sendLetter 1 = .ok (.getfield 12, 3) := by decide +kernel
theorem dX3_sendLetter_4 : decode cX3_sendLetter 4 = .ok (.iload_n 1, 1) := by decide +kernel
theorem dX3_sendLetter_5 : decode cX3_sendLetter 5 = .ok (.invokevirtual 104, 3) := by decide +kernel
theorem dX3_sendLetter_8 : decode cX3_sendLetter 8 = .ok (.istore 4, 2) := by decide +kernel
theorem dX3_sendLetter_10 : decode cX3_sendLetter 10 = .ok (.iload_n 3, 1) := by decide +kernel
theorem dX3_sendLetter_11 : decode cX3_sendLetter 11 = .ok (.ifCond .le 8, 3) := by decide +kernel
theorem dX3_sendLetter_14 : decode cX3_sendLetter 14 = .ok (.iload 4, 2) := by decide +kernel
theorem dX3_sendLetter_16 : decode cX3_sendLetter 16 = .ok (.ifCond .ne 4, 3) := by decide +kernel
theorem dX3_sendLetter_19 : decode cX3_sendLetter 19 = .ok (.return_, 1) := by decide +kernel
theorem dX3_sendLetter_20 : decode cX3_sendLetter 20 = .ok (.aload_n 0, 1) := by decide +kernel
theorem dX3_sendLetter_21 : decode cX3_sendLetter 21 = .ok (.getfield 12, 3) := by decide +kernel
theorem dX3_sendLetter_24 : decode cX3_sendLetter 24 = .ok (.iload_n 1, 1) := by decide +kernel
theorem dX3_sendLetter_25 : decode cX3_sendLetter 25 = .ok (.iload_n 3, 1) := by decide +kernel
theorem dX3_sendLetter_26 : decode cX3_sendLetter 26 = .ok (.iload 4, 2) := by decide +kernel
theorem dX3_sendLetter_28 : decode cX3_sendLetter 28 = .ok (.irem, 1) := by decide +kernel
theorem dX3_sendLetter_29 : decode cX3_sendLetter 29 = .ok (.invokevirtual 107, 3) := by decide +kernel
theorem dX3_sendLetter_32 : decode cX3_sendLetter 32 = .ok (.istore 5, 2) := by decide +kernel
theorem dX3_sendLetter_34 : decode cX3_sendLetter 34 = .ok (.iload 5, 2) := by decide +kernel
theorem dX3_sendLetter_36 : decode cX3_sendLetter 36 = .ok (.iconst (-1), 1) := by decide +kernel
theorem dX3_sendLetter_37 : decode cX3_sendLetter 37 = .ok (.if_icmp .ne 4, 3) := by decide +kernel
theorem dX3_sendLetter_40 : decode cX3_sendLetter 40 = .ok (.return_, 1) := by decide +kernel
theorem dX3_sendLetter_41 : decode cX3_sendLetter 41 = .ok (.iload_n 2, 1) := by decide +kernel
theorem dX3_sendLetter_42 : decode cX3_sendLetter 42 = .ok (.aload_n 0, 1) := by decide +kernel
theorem dX3_sendLetter_43 : decode cX3_sendLetter 43 = .ok (.getfield 12, 3) := by decide +kernel
theorem dX3_sendLetter_46 : decode cX3_sendLetter 46 = .ok (.getfield 111, 3) := by decide +kernel
theorem dX3_sendLetter_49 : decode cX3_sendLetter 49 = .ok (.iload 5, 2) := by decide +kernel
theorem dX3_sendLetter_51 : decode cX3_sendLetter 51 = .ok (.iaload, 1) := by decide +kernel
theorem dX3_sendLetter_52 : decode cX3_sendLetter 52 = .ok (.iadd, 1) := by decide +kernel
theorem dX3_sendLetter_53 : decode cX3_sendLetter 53 = .ok (.istore 6, 2) := by decide +kernel
theorem dX3_sendLetter_55 : decode cX3_sendLetter 55 = .ok (.aload_n 0, 1) := by decide +kernel
theorem dX3_sendLetter_56 : decode cX3_sendLetter 56 = .ok (.getfield 20, 3) := by decide +kernel
theorem dX3_sendLetter_59 : decode cX3_sendLetter 59 = .ok (.aload_n 0, 1) := by decide +kernel
theorem dX3_sendLetter_60 : decode cX3_sendLetter 60 = .ok (.getfield 12, 3) := by decide +kernel
theorem dX3_sendLetter_63 : decode cX3_sendLetter 63 = .ok (.getfield 114, 3) := by decide +kernel
theorem dX3_sendLetter_66 : decode cX3_sendLetter 66 = .ok (.iload 5, 2) := by decide +kernel
theorem dX3_sendLetter_68 : decode cX3_sendLetter 68 = .ok (.iaload, 1) := by decide +kernel
theorem dX3_sendLetter_69 : decode cX3_sendLetter 69 = .ok (.aaload, 1) := by decide +kernel
theorem dX3_sendLetter_70 : decode cX3_sendLetter 70 = .ok (.iload 6, 2) := by decide +kernel
theorem dX3_sendLetter_72 : decode cX3_sendLetter 72 = .ok (.iload_n 3, 1) := by decide +kernel
theorem dX3_sendLetter_73 : decode cX3_sendLetter 73 = .ok (.iconst 1, 1) := by decide +kernel
theorem dX3_sendLetter_74 : decode cX3_sendLetter 74 = .ok (.isub, 1) := by decide +kernel
theorem dX3_sendLetter_75 : decode cX3_sendLetter 75 = .ok (.iload 5, 2) := by decide +kernel
theorem dX3_sendLetter_77 : decode cX3_sendLetter 77 = .ok (.invokevirtual 90, 3) := by decide +kernel
theorem dX3_sendLetter_80 : decode cX3_sendLetter 80 = .ok (.aload_n 0, 1) := by decide +kernel
theorem dX3_sendLetter_81 : decode cX3_sendLetter 81 = .ok (.getfield 12, 3) := by decide +kernel
theorem dX3_sendLetter_84 : decode cX3_sendLetter 84 = .ok (.getfield 117, 3) := by decide +kernel
theorem dX3_sendLetter_87 : decode cX3_sendLetter 87 = .ok (.iload 5, 2) := by decide +kernel
theorem dX3_sendLetter_89 : decode cX3_sendLetter 89 = .ok (.dup2, 1) := by decide +kernel
theorem dX3_sendLetter_90 : decode cX3_sendLetter 90 = .ok (.iaload, 1) := by decide +kernel
theorem dX3_sendLetter_91 : decode cX3_sendLetter 91 = .ok (.iconst 1, 1) := by decide +kernel
theorem dX3_sendLetter_92 : decode cX3_sendLetter 92 = .ok (.iadd, 1) := by decide +kernel
theorem dX3_sendLetter_93 : decode cX3_sendLetter 93 = .ok (.iastore, 1) := by decide +kernel
theorem dX3_sendLetter_94 : decode cX3_sendLetter 94 = .ok (.aload_n 0, 1) := by decide +kernel
theorem dX3_sendLetter_95 : decode cX3_sendLetter 95 = .ok (.getfield 12, 3) := by decide +kernel
theorem dX3_sendLetter_98 : decode cX3_sendLetter 98 = .ok (.getfield 80, 3) := by decide +kernel
theorem dX3_sendLetter_101 : decode cX3_sendLetter 101 = .ok (.iload 5, 2) := by decide +kernel
theorem dX3_sendLetter_103 : decode cX3_sendLetter 103 = .ok (.aload_n 0, 1) := by decide +kernel
theorem dX3_sendLetter_104 : decode cX3_sendLetter 104 = .ok (.getfield 12, 3) := by decide +kernel
theorem dX3_sendLetter_107 : decode cX3_sendLetter 107 = .ok (.getfield 80, 3) := by decide +kernel
theorem dX3_sendLetter_110 : decode cX3_sendLetter 110 = .ok (.iload 5, 2) := by decide +kernel
theorem dX3_sendLetter_112 : decode cX3_sendLetter 112 = .ok (.iaload, 1) := by decide +kernel
theorem dX3_sendLetter_113 : decode cX3_sendLetter 113 = .ok (.iload 6, 2) := by decide +kernel
theorem dX3_sendLetter_115 : decode cX3_sendLetter 115 = .ok (.invokestatic 120, 3) := by decide +kernel
theorem dX3_sendLetter_118 : decode cX3_sendLetter 118 = .ok (.iastore, 1) := by decide +kernel
theorem dX3_sendLetter_119 : decode cX3_sendLetter 119 = .ok (.return_, 1) := by decide +kernel
theorem dX3_sendEmptyLetters_0 : decode cX3_sendEmptyLetters 0 = .ok (.aload_n 0, 1) := by decide +kernel
theorem dX3_sendEmptyLetters_1 : decode cX3_sendEmptyLetters 1 = .ok (.iload_n 1, 1) := by decide +kernel
theorem dX3_sendEmptyLetters_2 : decode cX3_sendEmptyLetters 2 = .ok (.invokevirtual 83, 3) := by decide +kernel
theorem dX3_sendEmptyLetters_5 : decode cX3_sendEmptyLetters 5 = .ok (.aload_n 0, 1) := by decide +kernel
theorem dX3_sendEmptyLetters_6 : decode cX3_sendEmptyLetters 6 = .ok (.getfield 20, 3) := by decide +kernel
theorem dX3_sendEmptyLetters_9 : decode cX3_sendEmptyLetters 9 = .ok (.iload_n 1, 1) := by decide +kernel
theorem dX3_sendEmptyLetters_10 : decode cX3_sendEmptyLetters 10 = .ok (.aaload, 1) := by decide +kernel
theorem dX3_sendEmptyLetters_11 : decode cX3_sendEmptyLetters 11 = .ok (.invokevirtual 68, 3) := by decide +kernel
theorem dX3_sendEmptyLetters_14 : decode cX3_sendEmptyLetters 14 = .ok (.invokestatic 125, 3) := by decide +kernel
theorem dX3_sendEmptyLetters_17 : decode cX3_sendEmptyLetters 17 = .ok (.istore_n 2, 1) := by decide +kernel
theorem dX3_sendEmptyLetters_18 : decode cX3_sendEmptyLetters 18 = .ok (.iconst 0, 1) := by decide +kernel
theorem dX3_sendEmptyLetters_19 : decode cX3_sendEmptyLetters 19 = .ok (.istore_n 3, 1) := by decide +kernel
theorem dX3_sendEmptyLetters_20 : decode cX3_sendEmptyLetters 20 = .ok (.iload_n 3, 1) := by decide +kernel
theorem dX3_sendEmptyLetters_21 : decode cX3_sendEmptyLetters 21 = .ok (.aload_n 0, 1) := by decide +kernel
theorem dX3_sendEmptyLetters_22 : decode cX3_sendEmptyLetters 22 = .ok (.getfield 12, 3) := by decide +kernel
theorem dX3_sendEmptyLetters_25 : decode cX3_sendEmptyLetters 25 = .ok (.getfield 39, 3) := by decide +kernel
theorem dX3_sendEmptyLetters_28 : decode cX3_sendEmptyLetters 28 = .ok (.if_icmp .ge 96, 3) := by decide +kernel
theorem dX3_sendEmptyLetters_31 : decode cX3_sendEmptyLetters 31 = .ok (.iload_n 2, 1) := by decide +kernel
theorem dX3_sendEmptyLetters_32 : decode cX3_sendEmptyLetters 32 = .ok (.aload_n 0, 1) := by decide +kernel
theorem dX3_sendEmptyLetters_33 : decode cX3_sendEmptyLetters 33 = .ok (.getfield 12, 3) := by decide +kernel
theorem dX3_sendEmptyLetters_36 : decode cX3_sendEmptyLetters 36 = .ok (.getfield 128, 3) := by decide +kernel
theorem dX3_sendEmptyLetters_39 : decode cX3_sendEmptyLetters 39 = .ok (.iload_n 3, 1) := by decide +kernel
theorem dX3_sendEmptyLetters_40 : decode cX3_sendEmptyLetters 40 = .ok (.iaload, 1) := by decide +kernel
theorem dX3_sendEmptyLetters_41 : decode cX3_sendEmptyLetters 41 = .ok (.iadd, 1) := by decide +kernel
theorem dX3_sendEmptyLetters_42 : decode cX3_sendEmptyLetters 42 = .ok (.ldc 79, 2) := by decide +kernel
theorem dX3_sendEmptyLetters_44 : decode cX3_sendEmptyLetters 44 = .ok (.invokestatic 125, 3) := by decide +kernel
theorem dX3_sendEmptyLetters_47 : decode cX3_sendEmptyLetters 47 = .ok (.istore 4, 2) := by decide +kernel
theorem dX3_sendEmptyLetters_49 : decode cX3_sendEmptyLetters 49 = .ok (.aload_n 0, 1) := by decide +kernel
theorem dX3_sendEmptyLetters_50 : decode cX3_sendEmptyLetters 50 = .ok (.getfield 12, 3) := by decide +kernel
theorem dX3_sendEmptyLetters_53 : decode cX3_sendEmptyLetters 53 = .ok (.getfield 131, 3) := by decide +kernel
theorem dX3_sendEmptyLetters_56 : decode cX3_sendEmptyLetters 56 = .ok (.iload_n 3, 1) := by decide +kernel
theorem dX3_sendEmptyLetters_57 : decode cX3_sendEmptyLetters 57 = .ok (.iaload, 1) := by decide +kernel
theorem dX3_sendEmptyLetters_58 : decode cX3_sendEmptyLetters 58 = .ok (.iload_n 1, 1) := by decide +kernel
theorem dX3_sendEmptyLetters_59 : decode cX3_sendEmptyLetters 59 = .ok (.if_icmp .ne 59, 3) := by decide +kernel
theorem dX3_sendEmptyLetters_62 : decode cX3_sendEmptyLetters 62 = .ok (.aload_n 0, 1) := by decide +kernel
theorem dX3_sendEmptyLetters_63 : decode cX3_sendEmptyLetters 63 = .ok (.getfield 12, 3) := by decide +kernel
theorem dX3_sendEmptyLetters_66 : decode cX3_sendEmptyLetters 66 = .ok (.getfield 80, 3) := by decide +kernel
theorem dX3_sendEmptyLetters_69 : decode cX3_sendEmptyLetters 69 = .ok (.iload_n 3, 1) := by decide +kernel
theorem dX3_sendEmptyLetters_70 : decode cX3_sendEmptyLetters 70 = .ok (.iaload, 1) := by decide +kernel
theorem dX3_sendEmptyLetters_71 : decode cX3_sendEmptyLetters 71 = .ok (.iload 4, 2) := by decide +kernel
theorem dX3_sendEmptyLetters_73 : decode cX3_sendEmptyLetters 73 = .ok (.if_icmp .ge 45, 3) := by decide +kernel
theorem dX3_sendEmptyLetters_76 : decode cX3_sendEmptyLetters 76 = .ok (.aload_n 0, 1) := by decide +kernel
theorem dX3_sendEmptyLetters_77 : decode cX3_sendEmptyLetters 77 = .ok (.iload_n 3, 1) := by decide +kernel
theorem dX3_sendEmptyLetters_78 : decode cX3_sendEmptyLetters 78 = .ok (.invokevirtual 134, 3) := by decide +kernel
theorem dX3_sendEmptyLetters_81 : decode cX3_sendEmptyLetters 81 = .ok (.ifCond .eq 37, 3) := by decide +kernel
theorem dX3_sendEmptyLetters_84 : decode cX3_sendEmptyLetters 84 = .ok (.aload_n 0, 1) := by decide +kernel
theorem dX3_sendEmptyLetters_85 : decode cX3_sendEmptyLetters 85 = .ok (.getfield 12, 3) := by decide +kernel
theorem dX3_sendEmptyLetters_88 : decode cX3_sendEmptyLetters 88 = .ok (.getfield 80, 3) := by decide +kernel
theorem dX3_sendEmptyLetters_91 : decode cX3_sendEmptyLetters 91 = .ok (.iload_n 3, 1) := by decide +kernel
theorem dX3_sendEmptyLetters_92 : decode cX3_sendEmptyLetters 92 = .ok (.iload 4, 2) := by decide +kernel
theorem dX3_sendEmptyLetters_94 : decode cX3_sendEmptyLetters 94 = .ok (.iastore, 1) := by decide +kernel
theorem dX3_sendEmptyLetters_95 : decode cX3_sendEmptyLetters 95 = .ok (.aload_n 0, 1) := by decide +kernel
theorem dX3_sendEmptyLetters_96 : decode cX3_sendEmptyLetters 96 = .ok (.getfield 12, 3) := by decide +kernel
theorem dX3_sendEmptyLetters_99 : decode cX3_sendEmptyLetters 99 = .ok (.getfield 137, 3) := by decide +kernel
theorem dX3_sendEmptyLetters_102 : decode cX3_sendEmptyLetters 102 = .ok (.iload_n 3, 1) := by decide +kernel
theorem dX3_sendEmptyLetters_103 : decode cX3_sendEmptyLetters 103 = .ok (.dup2, 1) := by decide +kernel
theorem dX3_sendEmptyLetters_104 : decode cX3_sendEmptyLetters 104 = .ok (.iaload, 1) := by decide +kernel
theorem dX3_sendEmptyLetters_105 : decode cX3_sendEmptyLetters 105 = .ok (.iconst 1, 1) := by decide +kernel
theorem dX3_sendEmptyLetters_106 : decode cX3_sendEmptyLetters 106 = .ok (.iadd, 1) := by decide +kernel
theorem dX3_sendEmptyLetters_107 : decode cX3_sendEmptyLetters 107 = .ok (.iastore, 1) := by decide +kernel
theorem dX3_sendEmptyLetters_108 : decode cX3_sendEmptyLetters 108 = .ok (.aload_n 0, 1) := by decide +kernel
theorem dX3_sendEmptyLetters_109 : decode cX3_sendEmptyLetters 109 = .ok (.dup, 1) := by decide +kernel
theorem dX3_sendEmptyLetters_110 : decode cX3_sendEmptyLetters 110 = .ok (.getfield 49, 3) := by decide +kernel
theorem dX3_sendEmptyLetters_113 : decode cX3_sendEmptyLetters 113 = .ok (.iconst 1, 1) := by decide +kernel
theorem dX3_sendEmptyLetters_114 : decode cX3_sendEmptyLetters 114 = .ok (.iadd, 1) := by decide +kernel
theorem dX3_sendEmptyLetters_115 : decode cX3_sendEmptyLetters 115 = .ok (.putfield 49, 3) := by decide +kernel
theorem dX3_sendEmptyLetters_118 : decode cX3_sendEmptyLetters 118 = .ok (.iinc 3 1, 3) := by decide +kernel
theorem dX3_sendEmptyLetters_121 : decode cX3_sendEmptyLetters 121 = .ok (.goto (-101), 3) := by decide +kernel
theorem dX3_sendEmptyLetters_124 : decode cX3_sendEmptyLetters 124 = .ok (.return_, 1) := by decide +kernel
theorem dX3_emptyMayGo_0 : decode cX3_emptyMayGo 0 = .ok (.aload_n 0, 1) := by decide +kernel
theorem dX3_emptyMayGo_1 : decode cX3_emptyMayGo 1 = .ok (.getfield 34, 3) := by decide +kernel
theorem dX3_emptyMayGo_4 : decode cX3_emptyMayGo 4 = .ok (.iconst 2, 1) := by decide +kernel
theorem dX3_emptyMayGo_5 : decode cX3_emptyMayGo 5 = .ok (.if_icmp .ne 20, 3) := by decide +kernel
theorem dX3_emptyMayGo_8 : decode cX3_emptyMayGo 8 = .ok (.aload_n 0, 1) := by decide +kernel
theorem dX3_emptyMayGo_9 : decode cX3_emptyMayGo 9 = .ok (.aload_n 0, 1) := by decide +kernel
theorem dX3_emptyMayGo_10 : decode cX3_emptyMayGo 10 = .ok (.getfield 12, 3) := by decide +kernel
theorem dX3_emptyMayGo_13 : decode cX3_emptyMayGo 13 = .ok (.getfield 114, 3) := by decide +kernel
theorem dX3_emptyMayGo_16 : decode cX3_emptyMayGo 16 = .ok (.iload_n 1, 1) := by decide +kernel
theorem dX3_emptyMayGo_17 : decode cX3_emptyMayGo 17 = .ok (.iaload, 1) := by decide +kernel
theorem dX3_emptyMayGo_18 : decode cX3_emptyMayGo 18 = .ok (.invokevirtual 140, 3) := by decide +kernel
theorem dX3_emptyMayGo_21 : decode cX3_emptyMayGo 21 = .ok (.iload_n 1, 1) := by decide +kernel
theorem dX3_emptyMayGo_22 : decode cX3_emptyMayGo 22 = .ok (.if_icmp .ne 7, 3) := by decide +kernel
theorem dX3_emptyMayGo_25 : decode cX3_emptyMayGo 25 = .ok (.iconst 1, 1) := by decide +kernel
theorem dX3_emptyMayGo_26 : decode cX3_emptyMayGo 26 = .ok (.goto 4, 3) := by decide +kernel
theorem dX3_emptyMayGo_29 : decode cX3_emptyMayGo 29 = .ok (.iconst 0, 1) := by decide +kernel
theorem dX3_emptyMayGo_30 : decode cX3_emptyMayGo 30 = .ok (.ireturn, 1) := by decide +kernel
end
section
theorem dX4_init_0 : decode cX4_init 0 = .ok (.aload_n 0, 1) := by decide +kernel
theorem dX4_init_1 : decode cX4_init 1 = .ok (.invokespecial 1, 3) := by decide +kernel
theorem dX4_init_4 : decode cX4_init 4 = .ok (.aload_n 0, 1) := by decide +kernel
theorem dX4_init_5 : decode cX4_init 5 = .ok (.new 7, 3) := by decide +kernel
theorem dX4_init_8 : decode cX4_init 8 = .ok (.dup, 1) := by decide +kernel
theorem dX4_init_9 : decode cX4_init 9 = .ok (.invokespecial 9, 3) := by decide +kernel
theorem dX4_init_12 : decode cX4_init 12 = .ok (.putfield 10, 3) := by decide +kernel
theorem dX4_init_15 : decode cX4_init 15 = .ok (.aload_n 0, 1) := by decide +kernel
theorem dX4_init_16 : decode cX4_init 16 = .ok (.new 7, 3) := by decide +kernel
theorem dX4_init_19 : decode cX4_init 19 = .ok (.dup, 1) := by decide +kernel
theorem dX4_init_20 : decode cX4_init 20 = .ok (.invokespecial 9, 3) := by decide +kernel
theorem dX4_init_23 : decode cX4_init 23 = .ok (.putfield 16, 3) := by decide +kernel
theorem dX4_init_26 : decode cX4_init 26 = .ok (.aload_n 0, 1) := by decide +kernel
theorem dX4_init_27 : decode cX4_init 27 = .ok (.iconst 2, 1) := by decide +kernel
theorem dX4_init_28 : decode cX4_init 28 = .ok (.anewarray 7, 3) := by decide +kernel
theorem dX4_init_31 : decode cX4_init 31 = .ok (.putfield 19, 3) := by decide +kernel
theorem dX4_init_34 : decode cX4_init 34 = .ok (.iconst 0, 1) := by decide +kernel
theorem dX4_init_35 : decode cX4_init 35 = .ok (.istore_n 1, 1) := by decide +kernel
theorem dX4_init_36 : decode cX4_init 36 = .ok (.iload_n 1, 1) := by decide +kernel
theorem dX4_init_37 : decode cX4_init 37 = .ok (.iconst 2, 1) := by decide +kernel
theorem dX4_init_38 : decode cX4_init 38 = .ok (.if_icmp .ge 22, 3) := by decide +kernel
theorem dX4_init_41 : decode cX4_init 41 = .ok (.aload_n 0, 1) := by decide +kernel
theorem dX4_init_42 : decode cX4_init 42 = .ok (.getfield 19, 3) := by decide +kernel
theorem dX4_init_45 : decode cX4_init 45 = .ok (.iload_n 1, 1) := by decide +kernel
theorem dX4_init_46 : decode cX4_init 46 = .ok (.new 7, 3) := by decide +kernel
theorem dX4_init_49 : decode cX4_init 49 = .ok (.dup, 1) := by decide +kernel
theorem dX4_init_50 : decode cX4_init 50 = .ok (.invokespecial 9, 3) := by decide +kernel
theorem dX4_init_53 : decode cX4_init 53 = .ok (.aastore, 1) := by decide +kernel
theorem dX4_init_54 : decode cX4_init 54 = .ok (.iinc 1 1, 3) := by decide +kernel
theorem dX4_init_57 : decode cX4_init 57 = .ok (.goto (-21), 3) := by decide +kernel
theorem dX4_init_60 : decode cX4_init 60 = .ok (.aload_n 0, 1) := by decide +kernel
theorem dX4_init_61 : decode cX4_init 61 = .ok (.iconst 2, 1) := by decide +kernel
theorem dX4_init_62 : decode cX4_init 62 = .ok (.newarray .boolean, 2) := by decide +kernel
theorem dX4_init_64 : decode cX4_init 64 = .ok (.putfield 23, 3) := by decide +kernel
theorem dX4_init_67 : decode cX4_init 67 = .ok (.aload_n 0, 1) := by decide +kernel
theorem dX4_init_68 : decode cX4_init 68 = .ok (.new 27, 3) := by decide +kernel
theorem dX4_init_71 : decode cX4_init 71 = .ok (.dup, 1) := by decide +kernel
theorem dX4_init_72 : decode cX4_init 72 = .ok (.invokespecial 29, 3) := by decide +kernel
theorem dX4_init_75 : decode cX4_init 75 = .ok (.putfield 30, 3) := by decide +kernel
theorem dX4_init_78 : decode cX4_init 78 = .ok (.aload_n 0, 1) := by decide +kernel
theorem dX4_init_79 : decode cX4_init 79 = .ok (.bipush 6, 2) := by decide +kernel
theorem dX4_init_81 : decode cX4_init 81 = .ok (.newarray .int, 2) := by decide +kernel
theorem dX4_init_83 : decode cX4_init 83 = .ok (.putfield 34, 3) := by decide +kernel
theorem dX4_init_86 : decode cX4_init 86 = .ok (.return_, 1) := by decide +kernel
theorem dX4_parts_0 : decode cX4_parts 0 = .ok (.iload_n 1, 1) := by decide +kernel
theorem dX4_parts_1 : decode cX4_parts 1 = .ok (.iconst 1, 1) := by decide +kernel
theorem dX4_parts_2 : decode cX4_parts 2 = .ok (.bipush 6, 2) := by decide +kernel
theorem dX4_parts_4 : decode cX4_parts 4 = .ok (.invokestatic 38, 3) := by decide +kernel
theorem dX4_parts_7 : decode cX4_parts 7 = .ok (.ifCond .eq 6, 3) := by decide +kernel
theorem dX4_parts_10 : decode cX4_parts 10 = .ok (.ldc 42, 2) := by decide +kernel
theorem dX4_parts_12 : decode cX4_parts 12 = .ok (.ireturn, 1) := by decide +kernel
theorem dX4_parts_13 : decode cX4_parts 13 = .ok (.aload_n 0, 1) := by decide +kernel
theorem dX4_parts_14 : decode cX4_parts 14 = .ok (.getfield 10, 3) := by decide +kernel
theorem dX4_parts_17 : decode cX4_parts 17 = .ok (.getfield 43, 3) := by decide +kernel
theorem dX4_parts_20 : decode cX4_parts 20 = .ok (.istore_n 2, 1) := by decide +kernel
theorem dX4_parts_21 : decode cX4_parts 21 = .ok (.aload_n 0, 1) := by decide +kernel
theorem dX4_parts_22 : decode cX4_parts 22 = .ok (.getfield 10, 3) := by decide +kernel
theorem dX4_parts_25 : decode cX4_parts 25 = .ok (.iload_n 1, 1) := by decide +kernel
theorem dX4_parts_26 : decode cX4_parts 26 = .ok (.invokevirtual 47, 3) := by decide +kernel
theorem dX4_parts_29 : decode cX4_parts 29 = .ok (.aload_n 0, 1) := by decide +kernel
theorem dX4_parts_30 : decode cX4_parts 30 = .ok (.getfield 30, 3) := by decide +kernel
theorem dX4_parts_33 : decode cX4_parts 33 = .ok (.invokevirtual 51, 3) := by decide +kernel
theorem dX4_parts_36 : decode cX4_parts 36 = .ok (.iconst 0, 1) := by decide +kernel
theorem dX4_parts_37 : decode cX4_parts 37 = .ok (.istore_n 3, 1) := by decide +kernel
theorem dX4_parts_38 : decode cX4_parts 38 = .ok (.iload_n 3, 1) := by decide +kernel
theorem dX4_parts_39 : decode cX4_parts 39 = .ok (.iconst 2, 1) := by decide +kernel
theorem dX4_parts_40 : decode cX4_parts 40 = .ok (.if_icmp .ge 16, 3) := by decide +kernel
theorem dX4_parts_43 : decode cX4_parts 43 = .ok (.aload_n 0, 1) := by decide +kernel
theorem dX4_parts_44 : decode cX4_parts 44 = .ok (.getfield 23, 3) := by decide +kernel
theorem dX4_parts_47 : decode cX4_parts 47 = .ok (.iload_n 3, 1) := by decide +kernel
theorem dX4_parts_48 : decode cX4_parts 48 = .ok (.iconst 0, 1) := by decide +kernel
theorem dX4_parts_49 : decode cX4_parts 49 = .ok (.bastore, 1) := by decide +kernel
theorem dX4_parts_50 : decode cX4_parts 50 = .ok (.iinc 3 1, 3) := by decide +kernel
theorem dX4_parts_53 : decode cX4_parts 53 = .ok (.goto (-15), 3) := by decide +kernel
theorem dX4_parts_56 : decode cX4_parts 56 = .ok (.iload_n 2, 1) := by decide +kernel
theorem dX4_parts_57 : decode cX4_parts 57 = .ok (.ireturn, 1) := by decide +kernel
theorem dX4_channel_0 : decode cX4_channel 0 = .ok (.aload_n 0, 1) := by decide +kernel
theorem dX4_channel_1 : decode cX4_channel 1 = .ok (.iload_n 1, 1) := by decide +kernel
theorem dX4_channel_2 : decode cX4_channel 2 = .ok (.iload_n 2, 1) := by decide +kernel
theorem dX4_channel_3 : decode cX4_channel 3 = .ok (.invokevirtual 54, 3) := by decide +kernel
theorem dX4_channel_6 : decode cX4_channel 6 = .ok (.ifCond .eq 6, 3) := by decide +kernel
theorem dX4_channel_9 : decode cX4_channel 9 = .ok (.ldc 58, 2) := by decide +kernel
theorem dX4_channel_11 : decode cX4_channel 11 = .ok (.ireturn, 1) := by decide +kernel
theorem dX4_channel_12 : decode cX4_channel 12 = .ok (.iload_n 3, 1) := by decide +kernel
theorem dX4_channel_13 : decode cX4_channel 13 = .ok (.iconst 0, 1) := by decide +kernel
theorem dX4_channel_14 : decode cX4_channel 14 = .ok (.bipush 99, 2) := by decide +kernel
theorem dX4_channel_16 : decode cX4_channel 16 = .ok (.invokestatic 38, 3) := by decide +kernel
theorem dX4_channel_19 : decode cX4_channel 19 = .ok (.ifCond .ne 20, 3) := by decide +kernel
theorem dX4_channel_22 : decode cX4_channel 22 = .ok (.iload 4, 2) := by decide +kernel
theorem dX4_channel_24 : decode cX4_channel 24 = .ok (.iconst 1, 1) := by decide +kernel
theorem dX4_channel_25 : decode cX4_channel 25 = .ok (.bipush 99, 2) := by decide +kernel
theorem dX4_channel_27 : decode cX4_channel 27 = .ok (.invokestatic 38, 3) := by decide +kernel
theorem dX4_channel_30 : decode cX4_channel 30 = .ok (.ifCond .ne 9, 3) := by decide +kernel
theorem dX4_channel_33 : decode cX4_channel 33 = .ok (.iload 4, 2) := by decide +kernel
theorem dX4_channel_35 : decode cX4_channel 35 = .ok (.iload_n 3, 1) := by decide +kernel
theorem dX4_channel_36 : decode cX4_channel 36 = .ok (.if_icmp .ge 6, 3) := by decide +kernel
theorem dX4_channel_39 : decode cX4_channel 39 = .ok (.ldc 42, 2) := by decide +kernel
theorem dX4_channel_41 : decode cX4_channel 41 = .ok (.ireturn, 1) := by decide +kernel
theorem dX4_channel_42 : decode cX4_channel 42 = .ok (.aload_n 0, 1) := by decide +kernel
theorem dX4_channel_43 : decode cX4_channel 43 = .ok (.getfield 10, 3) := by decide +kernel
theorem dX4_channel_46 : decode cX4_channel 46 = .ok (.getfield 59, 3) := by decide +kernel
theorem dX4_channel_49 : decode cX4_channel 49 = .ok (.iload_n 1, 1) := by decide +kernel
theorem dX4_channel_50 : decode cX4_channel 50 = .ok (.iload_n 2, 1) := by decide +kernel
theorem dX4_channel_51 : decode cX4_channel 51 = .ok (.invokevirtual 63, 3) := by decide +kernel
theorem dX4_channel_54 : decode cX4_channel 54 = .ok (.iconst (-1), 1) := by decide +kernel
theorem dX4_channel_55 : decode cX4_channel 55 = .ok (.if_icmp .ne 13, 3) := by decide +kernel
theorem dX4_channel_58 : decode cX4_channel 58 = .ok (.aload_n 0, 1) := by decide +kernel
theorem dX4_channel_59 : decode cX4_channel 59 = .ok (.getfield 10, 3) := by decide +kernel
theorem dX4_channel_62 : decode cX4_channel 62 = .ok (.invokevirtual 69, 3) := by decide +kernel
theorem dX4_channel_65 : decode cX4_channel 65 = .ok (.ifCond .le 6, 3) := by decide +kernel
theorem dX4_channel_68 : decode cX4_channel 68 = .ok (.ldc 73, 2) := by decide +kernel
theorem dX4_channel_70 : decode cX4_channel 70 = .ok (.ireturn, 1) := by decide +kernel
theorem dX4_channel_71 : decode cX4_channel 71 = .ok (.aload_n 0, 1) := by decide +kernel
theorem dX4_channel_72 : decode cX4_channel 72 = .ok (.getfield 10, 3) := by decide +kernel
theorem dX4_channel_75 : decode cX4_channel 75 = .ok (.getfield 59, 3) := by decide +kernel
theorem dX4_channel_78 : decode cX4_channel 78 = .ok (.getfield 74, 3) := by decide +kernel
theorem dX4_channel_81 : decode cX4_channel 81 = .ok (.bipush 12, 2) := by decide +kernel
theorem dX4_channel_83 : decode cX4_channel 83 = .ok (.if_icmp .lt 6, 3) := by decide +kernel
theorem dX4_channel_86 : decode cX4_channel 86 = .ok (.ldc 77, 2) := by decide +kernel
theorem dX4_channel_88 : decode cX4_channel 88 = .ok (.ireturn, 1) := by decide +kernel
theorem dX4_channel_89 : decode cX4_channel 89 = .ok (.aload_n 0, 1) := by decide +kernel
theorem dX4_channel_90 : decode cX4_channel 90 = .ok (.getfield 10, 3) := by decide +kernel
theorem dX4_channel_93 : decode cX4_channel 93 = .ok (.getfield 59, 3) := by decide +kernel
theorem dX4_channel_96 : decode cX4_channel 96 = .ok (.iload_n 1, 1) := by decide +kernel
theorem dX4_channel_97 : decode cX4_channel 97 = .ok (.iload_n 2, 1) := by decide +kernel
theorem dX4_channel_98 : decode cX4_channel 98 = .ok (.iload_n 3, 1) := by decide +kernel
theorem dX4_channel_99 : decode cX4_channel 99 = .ok (.iload 4, 2) := by decide +kernel
theorem dX4_channel_101 : decode cX4_channel 101 = .ok (.invokevirtual 78, 3) := by decide +kernel
theorem dX4_channel_104 : decode cX4_channel 104 = .ok (.ireturn, 1) := by decide +kernel
theorem dX4_event_0 : decode cX4_event 0 = .ok (.aload_n 0, 1) := by decide +kernel
theorem dX4_event_1 : decode cX4_event 1 = .ok (.iload_n 1, 1) := by decide +kernel
theorem dX4_event_2 : decode cX4_event 2 = .ok (.iload_n 2, 1) := by decide +kernel
theorem dX4_event_3 : decode cX4_event 3 = .ok (.iload_n 3, 1) := by decide +kernel
theorem dX4_event_4 : decode cX4_event 4 = .ok (.invokevirtual 82, 3) := by decide +kernel
theorem dX4_event_7 : decode cX4_event 7 = .ok (.istore 4, 2) := by decide +kernel
theorem dX4_event_9 : decode cX4_event 9 = .ok (.iload 4, 2) := by decide +kernel
theorem dX4_event_11 : decode cX4_event 11 = .ok (.ifCond .eq 6, 3) := by decide +kernel
theorem dX4_event_14 : decode cX4_event 14 = .ok (.iload 4, 2) := by decide +kernel
theorem dX4_event_16 : decode cX4_event 16 = .ok (.ireturn, 1) := by decide +kernel
theorem dX4_event_17 : decode cX4_event 17 = .ok (.aload_n 0, 1) := by decide +kernel
theorem dX4_event_18 : decode cX4_event 18 = .ok (.getfield 10, 3) := by decide +kernel
theorem dX4_event_21 : decode cX4_event 21 = .ok (.iload_n 1, 1) := by decide +kernel
theorem dX4_event_22 : decode cX4_event 22 = .ok (.iload_n 2, 1) := by decide +kernel
theorem dX4_event_23 : decode cX4_event 23 = .ok (.iload_n 3, 1) := by decide +kernel
theorem dX4_event_24 : decode cX4_event 24 = .ok (.invokevirtual 86, 3) := by decide +kernel
theorem dX4_event_27 : decode cX4_event 27 = .ok (.ireturn, 1) := by decide +kernel
theorem dX4_form_0 : decode cX4_form 0 = .ok (.iload_n 1, 1) := by decide +kernel
theorem dX4_form_1 : decode cX4_form 1 = .ok (.iconst 0, 1) := by decide +kernel
theorem dX4_form_2 : decode cX4_form 2 = .ok (.iconst 2, 1) := by decide +kernel
theorem dX4_form_3 : decode cX4_form 3 = .ok (.invokestatic 38, 3) := by decide +kernel
theorem dX4_form_6 : decode cX4_form 6 = .ok (.ifCond .eq 6, 3) := by decide +kernel
theorem dX4_form_9 : decode cX4_form 9 = .ok (.ldc 42, 2) := by decide +kernel
theorem dX4_form_11 : decode cX4_form 11 = .ok (.ireturn, 1) := by decide +kernel
theorem dX4_form_12 : decode cX4_form 12 = .ok (.aload_n 0, 1) := by decide +kernel
theorem dX4_form_13 : decode cX4_form 13 = .ok (.getfield 10, 3) := by decide +kernel
theorem dX4_form_16 : decode cX4_form 16 = .ok (.getfield 89, 3) := by decide +kernel
theorem dX4_form_19 : decode cX4_form 19 = .ok (.istore_n 2, 1) := by decide +kernel
theorem dX4_form_20 : decode cX4_form 20 = .ok (.aload_n 0, 1) := by decide +kernel
theorem dX4_form_21 : decode cX4_form 21 = .ok (.getfield 10, 3) := by decide +kernel
theorem dX4_form_24 : decode cX4_form 24 = .ok (.iload_n 1, 1) := by decide +kernel
theorem dX4_form_25 : decode cX4_form 25 = .ok (.putfield 89, 3) := by decide +kernel
theorem dX4_form_28 : decode cX4_form 28 = .ok (.iload_n 2, 1) := by decide +kernel
theorem dX4_form_29 : decode cX4_form 29 = .ok (.ireturn, 1) := by decide +kernel
theorem dX4_drift_0 : decode cX4_drift 0 = .ok (.iload_n 1, 1) := by decide +kernel
theorem dX4_drift_1 : decode cX4_drift 1 = .ok (.iconst 1, 1) := by decide +kernel
theorem dX4_drift_2 : decode cX4_drift 2 = .ok (.bipush 20, 2) := by decide +kernel
theorem dX4_drift_4 : decode cX4_drift 4 = .ok (.invokestatic 38, 3) := by decide +kernel
theorem dX4_drift_7 : decode cX4_drift 7 = .ok (.ifCond .ne 13, 3) := by decide +kernel
theorem dX4_drift_10 : decode cX4_drift 10 = .ok (.iload_n 2, 1) := by decide +kernel
theorem dX4_drift_11 : decode cX4_drift 11 = .ok (.iconst 1, 1) := by decide +kernel
theorem dX4_drift_12 : decode cX4_drift 12 = .ok (.ldc 92, 2) := by decide +kernel
theorem dX4_drift_14 : decode cX4_drift 14 = .ok (.invokestatic 38, 3) := by decide +kernel
theorem dX4_drift_17 : decode cX4_drift 17 = .ok (.ifCond .eq 6, 3) := by decide +kernel
theorem dX4_drift_20 : decode cX4_drift 20 = .ok (.ldc 42, 2) := by decide +kernel
theorem dX4_drift_22 : decode cX4_drift 22 = .ok (.ireturn, 1) := by decide +kernel
theorem dX4_drift_23 : decode cX4_drift 23 = .ok (.aload_n 0, 1) := by decide +kernel
theorem dX4_drift_24 : decode cX4_drift 24 = .ok (.getfield 10, 3) := by decide +kernel
theorem dX4_drift_27 : decode cX4_drift 27 = .ok (.getfield 93, 3) := by decide +kernel
theorem dX4_drift_30 : decode cX4_drift 30 = .ok (.istore_n 3, 1) := by decide +kernel
theorem dX4_drift_31 : decode cX4_drift 31 = .ok (.iload_n 3, 1) := by decide +kernel
theorem dX4_drift_32 : decode cX4_drift 32 = .ok (.iconst 1, 1) := by decide +kernel
theorem dX4_drift_33 : decode cX4_drift 33 = .ok (.if_icmp .ge 6, 3) := by decide +kernel
theorem dX4_drift_36 : decode cX4_drift 36 = .ok (.ldc 73, 2) := by decide +kernel
theorem dX4_drift_38 : decode cX4_drift 38 = .ok (.ireturn, 1) := by decide +kernel
theorem dX4_drift_39 : decode cX4_drift 39 = .ok (.iload_n 2, 1) := by decide +kernel
theorem dX4_drift_40 : decode cX4_drift 40 = .ok (.i2l, 1) := by decide +kernel
theorem dX4_drift_41 : decode cX4_drift 41 = .ok (.lstore 4, 2) := by decide +kernel
theorem dX4_drift_43 : decode cX4_drift 43 = .ok (.iconst 0, 1) := by decide +kernel
theorem dX4_drift_44 : decode cX4_drift 44 = .ok (.istore 6, 2) := by decide +kernel
theorem dX4_drift_46 : decode cX4_drift 46 = .ok (.iconst 0, 1) := by decide +kernel
theorem dX4_drift_47 : decode cX4_drift 47 = .ok (.istore 7, 2) := by decide +kernel
theorem dX4_drift_49 : decode cX4_drift 49 = .ok (.iload 7, 2) := by decide +kernel
theorem dX4_drift_51 : decode cX4_drift 51 = .ok (.iload_n 1, 1) := by decide +kernel
theorem dX4_drift_52 : decode cX4_drift 52 = .ok (.if_icmp .ge 99, 3) := by decide +kernel
theorem dX4_drift_55 : decode cX4_drift 55 = .ok (.lload 4, 2) := by decide +kernel
theorem dX4_drift_57 : decode cX4_drift 57 = .ok (.invokestatic 96, 3) := by decide +kernel
theorem dX4_drift_60 : decode cX4_drift 60 = .ok (.lstore 4, 2) := by decide +kernel
theorem dX4_drift_62 : decode cX4_drift 62 = .ok (.lload 4, 2) := by decide +kernel
theorem dX4_drift_64 : decode cX4_drift 64 = .ok (.iload_n 3, 1) := by decide +kernel
theorem dX4_drift_65 : decode cX4_drift 65 = .ok (.i2l, 1) := by decide +kernel
theorem dX4_drift_66 : decode cX4_drift 66 = .ok (.lrem, 1) := by decide +kernel
theorem dX4_drift_67 : decode cX4_drift 67 = .ok (.l2i, 1) := by decide +kernel
theorem dX4_drift_68 : decode cX4_drift 68 = .ok (.istore 8, 2) := by decide +kernel
theorem dX4_drift_70 : decode cX4_drift 70 = .ok (.lload 4, 2) := by decide +kernel
theorem dX4_drift_72 : decode cX4_drift 72 = .ok (.invokestatic 96, 3) := by decide +kernel
theorem dX4_drift_75 : decode cX4_drift 75 = .ok (.lstore 4, 2) := by decide +kernel
theorem dX4_drift_77 : decode cX4_drift 77 = .ok (.aload_n 0, 1) := by decide +kernel
theorem dX4_drift_78 : decode cX4_drift 78 = .ok (.getfield 10, 3) := by decide +kernel
theorem dX4_drift_81 : decode cX4_drift 81 = .ok (.getfield 100, 3) := by decide +kernel
theorem dX4_drift_84 : decode cX4_drift 84 = .ok (.iload 8, 2) := by decide +kernel
theorem dX4_drift_86 : decode cX4_drift 86 = .ok (.iaload, 1) := by decide +kernel
theorem dX4_drift_87 : decode cX4_drift 87 = .ok (.iconst 1, 1) := by decide +kernel
theorem dX4_drift_88 : decode cX4_drift 88 = .ok (.iadd, 1) := by decide +kernel
theorem dX4_drift_89 : decode cX4_drift 89 = .ok (.lload 4, 2) := by decide +kernel
theorem dX4_drift_91 : decode cX4_drift 91 = .ok (.ldc2_w 103, 3) := by decide +kernel
theorem dX4_drift_94 : decode cX4_drift 94 = .ok (.lrem, 1) := by decide +kernel
theorem dX4_drift_95 : decode cX4_drift 95 = .ok (.l2i, 1) := by decide +kernel
theorem dX4_drift_96 : decode cX4_drift 96 = .ok (.iadd, 1) := by decide +kernel
theorem dX4_drift_97 : decode cX4_drift 97 = .ok (.istore 9, 2) := by decide +kernel
theorem dX4_drift_99 : decode cX4_drift 99 = .ok (.lload 4, 2) := by decide +kernel
theorem dX4_drift_101 : decode cX4_drift 101 = .ok (.invokestatic 96, 3) := by decide +kernel
theorem dX4_drift_104 : decode cX4_drift 104 = .ok (.lstore 4, 2) := by decide +kernel
theorem dX4_drift_106 : decode cX4_drift 106 = .ok (.lload 4, 2) := by decide +kernel
theorem dX4_drift_108 : decode cX4_drift 108 = .ok (.ldc2_w 105, 3) := by decide +kernel
theorem dX4_drift_111 : decode cX4_drift 111 = .ok (.lrem, 1) := by decide +kernel
theorem dX4_drift_112 : decode cX4_drift 112 = .ok (.l2i, 1) := by decide +kernel
theorem dX4_drift_113 : decode cX4_drift 113 = .ok (.istore 10, 2) := by decide +kernel
theorem dX4_drift_115 : decode cX4_drift 115 = .ok (.aload_n 0, 1) := by decide +kernel
theorem dX4_drift_116 : decode cX4_drift 116 = .ok (.iload 8, 2) := by decide +kernel
theorem dX4_drift_118 : decode cX4_drift 118 = .ok (.iload 9, 2) := by decide +kernel
theorem dX4_drift_120 : decode cX4_drift 120 = .ok (.iload 10, 2) := by decide +kernel
theorem dX4_drift_122 : decode cX4_drift 122 = .ok (.invokevirtual 82, 3) := by decide +kernel
theorem dX4_drift_125 : decode cX4_drift 125 = .ok (.ifCond .ne 20, 3) := by decide +kernel
theorem dX4_drift_128 : decode cX4_drift 128 = .ok (.aload_n 0, 1) := by decide +kernel
theorem dX4_drift_129 : decode cX4_drift 129 = .ok (.getfield 10, 3) := by decide +kernel
theorem dX4_drift_132 : decode cX4_drift 132 = .ok (.iload 8, 2) := by decide +kernel
theorem dX4_drift_134 : decode cX4_drift 134 = .ok (.iload 9, 2) := by decide +kernel
theorem dX4_drift_136 : decode cX4_drift 136 = .ok (.iload 10, 2) := by decide +kernel
theorem dX4_drift_138 : decode cX4_drift 138 = .ok (.invokevirtual 86, 3) := by decide +kernel
theorem dX4_drift_141 : decode cX4_drift 141 = .ok (.pop, 1) := by decide +kernel
theorem dX4_drift_142 : decode cX4_drift 142 = .ok (.iinc 6 1, 3) := by decide +kernel
theorem dX4_drift_145 : decode cX4_drift 145 = .ok (.iinc 7 1, 3) := by decide +kernel
theorem dX4_drift_148 : decode cX4_drift 148 = .ok (.goto (-99), 3) := by decide +kernel
theorem dX4_drift_151 : decode cX4_drift 151 = .ok (.iload 6, 2) := by decide +kernel
theorem dX4_drift_153 : decode cX4_drift 153 = .ok (.ireturn, 1) := by decide +kernel
theorem dX4_run_0 : decode cX4_run 0 = .ok (.iload_n 1, 1) := by decide +kernel
theorem dX4_run_1 : decode cX4_run 1 = .ok (.iconst 1, 1) := by decide +kernel
theorem dX4_run_2 : decode cX4_run 2 = .ok (.bipush 40, 2) := by decide +kernel
theorem dX4_run_4 : decode cX4_run 4 = .ok (.invokestatic 38, 3) := by decide +kernel
theorem dX4_run_7 : decode cX4_run 7 = .ok (.ifCond .eq 6, 3) := by decide +kernel
theorem dX4_run_10 : decode cX4_run 10 = .ok (.ldc 42, 2) := by decide +kernel
theorem dX4_run_12 : decode cX4_run 12 = .ok (.ireturn, 1) := by decide +kernel
theorem dX4_run_13 : decode cX4_run 13 = .ok (.aload_n 0, 1) := by decide +kernel
theorem dX4_run_14 : decode cX4_run 14 = .ok (.invokevirtual 107, 3) := by decide +kernel
theorem dX4_run_17 : decode cX4_run 17 = .ok (.ifCond .eq 6, 3) := by decide +kernel
theorem dX4_run_20 : decode cX4_run 20 = .ok (.ldc 73, 2) := by decide +kernel
theorem dX4_run_22 : decode cX4_run 22 = .ok (.ireturn, 1) := by decide +kernel
theorem dX4_run_23 : decode cX4_run 23 = .ok (.aload_n 0, 1) := by decide +kernel
theorem dX4_run_24 : decode cX4_run 24 = .ok (.getfield 10, 3) := by decide +kernel
theorem dX4_run_27 : decode cX4_run 27 = .ok (.getfield 43, 3) := by decide +kernel
theorem dX4_run_30 : decode cX4_run 30 = .ok (.istore_n 2, 1) := by decide +kernel
theorem dX4_run_31 : decode cX4_run 31 = .ok (.iconst 0, 1) := by decide +kernel
theorem dX4_run_32 : decode cX4_run 32 = .ok (.istore_n 3, 1) := by decide +kernel
theorem dX4_run_33 : decode cX4_run 33 = .ok (.iconst 0, 1) := by decide +kernel
theorem dX4_run_34 : decode cX4_run 34 = .ok (.istore 4, 2) := by decide +kernel
theorem dX4_run_36 : decode cX4_run 36 = .ok (.iload 4, 2) := by decide +kernel
theorem dX4_run_38 : decode cX4_run 38 = .ok (.iload_n 1, 1) := by decide +kernel
theorem dX4_run_39 : decode cX4_run 39 = .ok (.if_icmp .ge 28, 3) := by decide +kernel
theorem dX4_run_42 : decode cX4_run 42 = .ok (.iload_n 3, 1) := by decide +kernel
theorem dX4_run_43 : decode cX4_run 43 = .ok (.ifCond .ne 24, 3) := by decide +kernel
theorem dX4_run_46 : decode cX4_run 46 = .ok (.aload_n 0, 1) := by decide +kernel
theorem dX4_run_47 : decode cX4_run 47 = .ok (.getfield 10, 3) := by decide +kernel
theorem dX4_run_50 : decode cX4_run 50 = .ok (.invokevirtual 111, 3) := by decide +kernel
theorem dX4_run_53 : decode cX4_run 53 = .ok (.ifCond .le 14, 3) := by decide +kernel
theorem dX4_run_56 : decode cX4_run 56 = .ok (.aload_n 0, 1) := by decide +kernel
theorem dX4_run_57 : decode cX4_run 57 = .ok (.invokevirtual 114, 3) := by decide +kernel
theorem dX4_run_60 : decode cX4_run 60 = .ok (.istore_n 3, 1) := by decide +kernel
theorem dX4_run_61 : decode cX4_run 61 = .ok (.iinc 4 1, 3) := by decide +kernel
theorem dX4_run_64 : decode cX4_run 64 = .ok (.goto (-28), 3) := by decide +kernel
theorem dX4_run_67 : decode cX4_run 67 = .ok (.aload_n 0, 1) := by decide +kernel
theorem dX4_run_68 : decode cX4_run 68 = .ok (.getfield 10, 3) := by decide +kernel
theorem dX4_run_71 : decode cX4_run 71 = .ok (.getfield 43, 3) := by decide +kernel
theorem dX4_run_74 : decode cX4_run 74 = .ok (.iload_n 2, 1) := by decide +kernel
theorem dX4_run_75 : decode cX4_run 75 = .ok (.isub, 1) := by decide +kernel
theorem dX4_run_76 : decode cX4_run 76 = .ok (.ireturn, 1) := by decide +kernel
theorem dX4_letGo_0 : decode cX4_letGo 0 = .ok (.aload_n 0, 1) := by decide +kernel
theorem dX4_letGo_1 : decode cX4_letGo 1 = .ok (.getfield 10, 3) := by decide +kernel
theorem dX4_letGo_4 : decode cX4_letGo 4 = .ok (.invokevirtual 111, 3) := by decide +kernel
theorem dX4_letGo_7 : decode cX4_letGo 7 = .ok (.ifCond .eq 13, 3) := by decide +kernel
theorem dX4_letGo_10 : decode cX4_letGo 10 = .ok (.aload_n 0, 1) := by decide +kernel
theorem dX4_letGo_11 : decode cX4_letGo 11 = .ok (.getfield 10, 3) := by decide +kernel
theorem dX4_letGo_14 : decode cX4_letGo 14 = .ok (.invokevirtual 117, 3) := by decide +kernel
theorem dX4_letGo_17 : decode cX4_letGo 17 = .ok (.ifCond .eq 6, 3) := by decide +kernel
theorem dX4_letGo_20 : decode cX4_letGo 20 = .ok (.ldc 73, 2) := by decide +kernel
theorem dX4_letGo_22 : decode cX4_letGo 22 = .ok (.ireturn, 1) := by decide +kernel
theorem dX4_letGo_23 : decode cX4_letGo 23 = .ok (.aload_n 0, 1) := by decide +kernel
theorem dX4_letGo_24 : decode cX4_letGo 24 = .ok (.invokevirtual 120, 3) := by decide +kernel
theorem dX4_letGo_27 : decode cX4_letGo 27 = .ok (.ireturn, 1) := by decide +kernel
theorem dX4_finish_0 : decode cX4_finish 0 = .ok (.aload_n 0, 1) := by decide +kernel
theorem dX4_finish_1 : decode cX4_finish 1 = .ok (.invokevirtual 107, 3) := by decide +kernel
theorem dX4_finish_4 : decode cX4_finish 4 = .ok (.ifCond .eq 6, 3) := by decide +kernel
theorem dX4_finish_7 : decode cX4_finish 7 = .ok (.ldc 73, 2) := by decide +kernel
theorem dX4_finish_9 : decode cX4_finish 9 = .ok (.ireturn, 1) := by decide +kernel
theorem dX4_finish_10 : decode cX4_finish 10 = .ok (.aload_n 0, 1) := by decide +kernel
theorem dX4_finish_11 : decode cX4_finish 11 = .ok (.getfield 10, 3) := by decide +kernel
theorem dX4_finish_14 : decode cX4_finish 14 = .ok (.getfield 43, 3) := by decide +kernel
theorem dX4_finish_17 : decode cX4_finish 17 = .ok (.istore_n 1, 1) := by decide +kernel
theorem dX4_finish_18 : decode cX4_finish 18 = .ok (.iconst 0, 1) := by decide +kernel
theorem dX4_finish_19 : decode cX4_finish 19 = .ok (.istore_n 2, 1) := by decide +kernel
theorem dX4_finish_20 : decode cX4_finish 20 = .ok (.iconst 0, 1) := by decide +kernel
theorem dX4_finish_21 : decode cX4_finish 21 = .ok (.istore_n 3, 1) := by decide +kernel
theorem dX4_finish_22 : decode cX4_finish 22 = .ok (.iload_n 3, 1) := by decide +kernel
theorem dX4_finish_23 : decode cX4_finish 23 = .ok (.sipush 400, 3) := by decide +kernel
theorem dX4_finish_26 : decode cX4_finish 26 = .ok (.if_icmp .ge 38, 3) := by decide +kernel
theorem dX4_finish_29 : decode cX4_finish 29 = .ok (.aload_n 0, 1) := by decide +kernel
theorem dX4_finish_30 : decode cX4_finish 30 = .ok (.getfield 10, 3) := by decide +kernel
theorem dX4_finish_33 : decode cX4_finish 33 = .ok (.invokevirtual 111, 3) := by decide +kernel
theorem dX4_finish_36 : decode cX4_finish 36 = .ok (.ifCond .le 28, 3) := by decide +kernel
theorem dX4_finish_39 : decode cX4_finish 39 = .ok (.iload_n 2, 1) := by decide +kernel
theorem dX4_finish_40 : decode cX4_finish 40 = .ok (.ifCond .eq 13, 3) := by decide +kernel
theorem dX4_finish_43 : decode cX4_finish 43 = .ok (.aload_n 0, 1) := by decide +kernel
theorem dX4_finish_44 : decode cX4_finish 44 = .ok (.invokevirtual 120, 3) := by decide +kernel
theorem dX4_finish_47 : decode cX4_finish 47 = .ok (.pop, 1) := by decide +kernel
theorem dX4_finish_48 : decode cX4_finish 48 = .ok (.iconst 0, 1) := by decide +kernel
theorem dX4_finish_49 : decode cX4_finish 49 = .ok (.istore_n 2, 1) := by decide +kernel
theorem dX4_finish_50 : decode cX4_finish 50 = .ok (.goto 8, 3) := by decide +kernel
theorem dX4_finish_53 : decode cX4_finish 53 = .ok (.aload_n 0, 1) := by decide +kernel
theorem dX4_finish_54 : decode cX4_finish 54 = .ok (.invokevirtual 114, 3) := by decide +kernel
theorem dX4_finish_57 : decode cX4_finish 57 = .ok (.istore_n 2, 1) := by decide +kernel
theorem dX4_finish_58 : decode cX4_finish 58 = .ok (.iinc 3 1, 3) := by decide +kernel
theorem dX4_finish_61 : decode cX4_finish 61 = .ok (.goto (-39), 3) := by decide +kernel
theorem dX4_finish_64 : decode cX4_finish 64 = .ok (.aload_n 0, 1) := by decide +kernel
theorem dX4_finish_65 : decode cX4_finish 65 = .ok (.getfield 10, 3) := by decide +kernel
theorem dX4_finish_68 : decode cX4_finish 68 = .ok (.getfield 43, 3) := by decide +kernel
theorem dX4_finish_71 : decode cX4_finish 71 = .ok (.iload_n 1, 1) := by decide +kernel
theorem dX4_finish_72 : decode cX4_finish 72 = .ok (.isub, 1) := by decide +kernel
theorem dX4_finish_73 : decode cX4_finish 73 = .ok (.ireturn, 1) := by decide +kernel
theorem dX4_told_0 : decode cX4_told 0 = .ok (.iload_n 1, 1) := by decide +kernel
theorem dX4_told_1 : decode cX4_told 1 = .ok (.tableswitch 192 0 12 #[67, 75, 86, 94, 102, 110, 118, 126, 134, 142, 150, 158, 184], 67) := by decide +kernel
theorem dX4_told_68 : decode cX4_told 68 = .ok (.aload_n 0, 1) := by decide +kernel
theorem dX4_told_69 : decode cX4_told 69 = .ok (.getfield 10, 3) := by decide +kernel
theorem dX4_told_72 : decode cX4_told 72 = .ok (.getfield 93, 3) := by decide +kernel
theorem dX4_told_75 : decode cX4_told 75 = .ok (.ireturn, 1) := by decide +kernel
theorem dX4_told_76 : decode cX4_told 76 = .ok (.aload_n 0, 1) := by decide +kernel
theorem dX4_told_77 : decode cX4_told 77 = .ok (.getfield 10, 3) := by decide +kernel
theorem dX4_told_80 : decode cX4_told 80 = .ok (.getfield 59, 3) := by decide +kernel
theorem dX4_told_83 : decode cX4_told 83 = .ok (.getfield 74, 3) := by decide +kernel
theorem dX4_told_86 : decode cX4_told 86 = .ok (.ireturn, 1) := by decide +kernel
theorem dX4_told_87 : decode cX4_told 87 = .ok (.aload_n 0, 1) := by decide +kernel
theorem dX4_told_88 : decode cX4_told 88 = .ok (.getfield 10, 3) := by decide +kernel
theorem dX4_told_91 : decode cX4_told 91 = .ok (.getfield 89, 3) := by decide +kernel
theorem dX4_told_94 : decode cX4_told 94 = .ok (.ireturn, 1) := by decide +kernel
theorem dX4_told_95 : decode cX4_told 95 = .ok (.aload_n 0, 1) := by decide +kernel
theorem dX4_told_96 : decode cX4_told 96 = .ok (.getfield 10, 3) := by decide +kernel
theorem dX4_told_99 : decode cX4_told 99 = .ok (.invokevirtual 111, 3) := by decide +kernel
theorem dX4_told_102 : decode cX4_told 102 = .ok (.ireturn, 1) := by decide +kernel
theorem dX4_told_103 : decode cX4_told 103 = .ok (.aload_n 0, 1) := by decide +kernel
theorem dX4_told_104 : decode cX4_told 104 = .ok (.getfield 10, 3) := by decide +kernel
theorem dX4_told_107 : decode cX4_told 107 = .ok (.getfield 43, 3) := by decide +kernel
theorem dX4_told_110 : decode cX4_told 110 = .ok (.ireturn, 1) := by decide +kernel
theorem dX4_told_111 : decode cX4_told 111 = .ok (.aload_n 0, 1) := by decide +kernel
theorem dX4_told_112 : decode cX4_told 112 = .ok (.getfield 10, 3) := by decide +kernel
theorem dX4_told_115 : decode cX4_told 115 = .ok (.getfield 123, 3) := by decide +kernel
theorem dX4_told_118 : decode cX4_told 118 = .ok (.ireturn, 1) := by decide +kernel
theorem dX4_told_119 : decode cX4_told 119 = .ok (.aload_n 0, 1) := by decide +kernel
theorem dX4_told_120 : decode cX4_told 120 = .ok (.getfield 10, 3) := by decide +kernel
theorem dX4_told_123 : decode cX4_told 123 = .ok (.getfield 126, 3) := by decide +kernel
theorem dX4_told_126 : decode cX4_told 126 = .ok (.ireturn, 1) := by decide +kernel
theorem dX4_told_127 : decode cX4_told 127 = .ok (.aload_n 0, 1) := by decide +kernel
theorem dX4_told_128 : decode cX4_told 128 = .ok (.getfield 10, 3) := by decide +kernel
theorem dX4_told_131 : decode cX4_told 131 = .ok (.getfield 129, 3) := by decide +kernel
theorem dX4_told_134 : decode cX4_told 134 = .ok (.ireturn, 1) := by decide +kernel
theorem dX4_told_135 : decode cX4_told 135 = .ok (.aload_n 0, 1) := by decide +kernel
theorem dX4_told_136 : decode cX4_told 136 = .ok (.getfield 10, 3) := by decide +kernel
theorem dX4_told_139 : decode cX4_told 139 = .ok (.invokevirtual 117, 3) := by decide +kernel
theorem dX4_told_142 : decode cX4_told 142 = .ok (.ireturn, 1) := by decide +kernel
theorem dX4_told_143 : decode cX4_told 143 = .ok (.aload_n 0, 1) := by decide +kernel
theorem dX4_told_144 : decode cX4_told 144 = .ok (.getfield 10, 3) := by decide +kernel
theorem dX4_told_147 : decode cX4_told 147 = .ok (.invokevirtual 132, 3) := by decide +kernel
theorem dX4_told_150 : decode cX4_told 150 = .ok (.ireturn, 1) := by decide +kernel
theorem dX4_told_151 : decode cX4_told 151 = .ok (.aload_n 0, 1) := by decide +kernel
theorem dX4_told_152 : decode cX4_told 152 = .ok (.getfield 30, 3) := by decide +kernel
theorem dX4_told_155 : decode cX4_told 155 = .ok (.getfield 135, 3) := by decide +kernel
theorem dX4_told_158 : decode cX4_told 158 = .ok (.ireturn, 1) := by decide +kernel
theorem dX4_told_159 : decode cX4_told 159 = .ok (.aload_n 0, 1) := by decide +kernel
theorem dX4_told_160 : decode cX4_told 160 = .ok (.getfield 10, 3) := by decide +kernel
theorem dX4_told_163 : decode cX4_told 163 = .ok (.getfield 59, 3) := by decide +kernel
theorem dX4_told_166 : decode cX4_told 166 = .ok (.aload_n 0, 1) := by decide +kernel
theorem dX4_told_167 : decode cX4_told 167 = .ok (.getfield 10, 3) := by decide +kernel
theorem dX4_told_170 : decode cX4_told 170 = .ok (.getfield 93, 3) := by decide +kernel
theorem dX4_told_173 : decode cX4_told 173 = .ok (.invokevirtual 136, 3) := by decide +kernel
theorem dX4_told_176 : decode cX4_told 176 = .ok (.ifCond .eq 7, 3) := by decide +kernel
theorem dX4_told_179 : decode cX4_told 179 = .ok (.iconst 1, 1) := by decide +kernel
theorem dX4_told_180 : decode cX4_told 180 = .ok (.goto 4, 3) := by decide +kernel
theorem dX4_told_183 : decode cX4_told 183 = .ok (.iconst 0, 1) := by decide +kernel
theorem dX4_told_184 : decode cX4_told 184 = .ok (.ireturn, 1) := by decide +kernel
theorem dX4_told_185 : decode cX4_told 185 = .ok (.aload_n 0, 1) := by decide +kernel
theorem dX4_told_186 : decode cX4_told 186 = .ok (.getfield 10, 3) := by decide +kernel
theorem dX4_told_189 : decode cX4_told 189 = .ok (.getfield 140, 3) := by decide +kernel
theorem dX4_told_192 : decode cX4_told 192 = .ok (.ireturn, 1) := by decide +kernel
theorem dX4_told_193 : decode cX4_told 193 = .ok (.ldc 42, 2) := by decide +kernel
theorem dX4_told_195 : decode cX4_told 195 = .ok (.ireturn, 1) := by decide +kernel
theorem dX4_part_0 : decode cX4_part 0 = .ok (.aload_n 0, 1) := by decide +kernel
theorem dX4_part_1 : decode cX4_part 1 = .ok (.iload_n 1, 1) := by decide +kernel
theorem dX4_part_2 : decode cX4_part 2 = .ok (.invokevirtual 143, 3) := by decide +kernel
theorem dX4_part_5 : decode cX4_part 5 = .ok (.ifCond .eq 6, 3) := by decide +kernel
theorem dX4_part_8 : decode cX4_part 8 = .ok (.ldc 58, 2) := by decide +kernel
theorem dX4_part_10 : decode cX4_part 10 = .ok (.ireturn, 1) := by decide +kernel
theorem dX4_part_11 : decode cX4_part 11 = .ok (.iload_n 2, 1) := by decide +kernel
theorem dX4_part_12 : decode cX4_part 12 = .ok (.tableswitch 188 0 10 #[60, 70, 80, 90, 99, 112, 125, 138, 155, 164, 176], 60) := by decide +kernel
theorem dX4_part_72 : decode cX4_part 72 = .ok (.aload_n 0, 1) := by decide +kernel
theorem dX4_part_73 : decode cX4_part 73 = .ok (.getfield 10, 3) := by decide +kernel
theorem dX4_part_76 : decode cX4_part 76 = .ok (.getfield 146, 3) := by decide +kernel
theorem dX4_part_79 : decode cX4_part 79 = .ok (.iload_n 1, 1) := by decide +kernel
theorem dX4_part_80 : decode cX4_part 80 = .ok (.iaload, 1) := by decide +kernel
theorem dX4_part_81 : decode cX4_part 81 = .ok (.ireturn, 1) := by decide +kernel
theorem dX4_part_82 : decode cX4_part 82 = .ok (.aload_n 0, 1) := by decide +kernel
theorem dX4_part_83 : decode cX4_part 83 = .ok (.getfield 10, 3) := by decide +kernel
theorem dX4_part_86 : decode cX4_part 86 = .ok (.getfield 149, 3) := by decide +kernel
theorem dX4_part_89 : decode cX4_part 89 = .ok (.iload_n 1, 1) := by decide +kernel
theorem dX4_part_90 : decode cX4_part 90 = .ok (.iaload, 1) := by decide +kernel
theorem dX4_part_91 : decode cX4_part 91 = .ok (.ireturn, 1) := by decide +kernel
theorem dX4_part_92 : decode cX4_part 92 = .ok (.aload_n 0, 1) := by decide +kernel
theorem dX4_part_93 : decode cX4_part 93 = .ok (.getfield 10, 3) := by decide +kernel
theorem dX4_part_96 : decode cX4_part 96 = .ok (.getfield 100, 3) := by decide +kernel
theorem dX4_part_99 : decode cX4_part 99 = .ok (.iload_n 1, 1) := by decide +kernel
theorem dX4_part_100 : decode cX4_part 100 = .ok (.iaload, 1) := by decide +kernel
theorem dX4_part_101 : decode cX4_part 101 = .ok (.ireturn, 1) := by decide +kernel
theorem dX4_part_102 : decode cX4_part 102 = .ok (.aload_n 0, 1) := by decide +kernel
theorem dX4_part_103 : decode cX4_part 103 = .ok (.getfield 10, 3) := by decide +kernel
theorem dX4_part_106 : decode cX4_part 106 = .ok (.iload_n 1, 1) := by decide +kernel
theorem dX4_part_107 : decode cX4_part 107 = .ok (.invokevirtual 152, 3) := by decide +kernel
theorem dX4_part_110 : decode cX4_part 110 = .ok (.ireturn, 1) := by decide +kernel
theorem dX4_part_111 : decode cX4_part 111 = .ok (.aload_n 0, 1) := by decide +kernel
theorem dX4_part_112 : decode cX4_part 112 = .ok (.getfield 10, 3) := by decide +kernel
theorem dX4_part_115 : decode cX4_part 115 = .ok (.getfield 156, 3) := by decide +kernel
theorem dX4_part_118 : decode cX4_part 118 = .ok (.iload_n 1, 1) := by decide +kernel
theorem dX4_part_119 : decode cX4_part 119 = .ok (.aaload, 1) := by decide +kernel
theorem dX4_part_120 : decode cX4_part 120 = .ok (.getfield 160, 3) := by decide +kernel
theorem dX4_part_123 : decode cX4_part 123 = .ok (.ireturn, 1) := by decide +kernel
theorem dX4_part_124 : decode cX4_part 124 = .ok (.aload_n 0, 1) := by decide +kernel
theorem dX4_part_125 : decode cX4_part 125 = .ok (.getfield 10, 3) := by decide +kernel
theorem dX4_part_128 : decode cX4_part 128 = .ok (.getfield 156, 3) := by decide +kernel
theorem dX4_part_131 : decode cX4_part 131 = .ok (.iload_n 1, 1) := by decide +kernel
theorem dX4_part_132 : decode cX4_part 132 = .ok (.aaload, 1) := by decide +kernel
theorem dX4_part_133 : decode cX4_part 133 = .ok (.invokevirtual 163, 3) := by decide +kernel
theorem dX4_part_136 : decode cX4_part 136 = .ok (.ireturn, 1) := by decide +kernel
theorem dX4_part_137 : decode cX4_part 137 = .ok (.aload_n 0, 1) := by decide +kernel
theorem dX4_part_138 : decode cX4_part 138 = .ok (.getfield 10, 3) := by decide +kernel
theorem dX4_part_141 : decode cX4_part 141 = .ok (.getfield 156, 3) := by decide +kernel
theorem dX4_part_144 : decode cX4_part 144 = .ok (.iload_n 1, 1) := by decide +kernel
theorem dX4_part_145 : decode cX4_part 145 = .ok (.aaload, 1) := by decide +kernel
theorem dX4_part_146 : decode cX4_part 146 = .ok (.invokevirtual 166, 3) := by decide +kernel
theorem dX4_part_149 : decode cX4_part 149 = .ok (.ireturn, 1) := by decide +kernel
theorem dX4_part_150 : decode cX4_part 150 = .ok (.aload_n 0, 1) := by decide +kernel
theorem dX4_part_151 : decode cX4_part 151 = .ok (.getfield 10, 3) := by decide +kernel
theorem dX4_part_154 : decode cX4_part 154 = .ok (.iload_n 1, 1) := by decide +kernel
theorem dX4_part_155 : decode cX4_part 155 = .ok (.invokevirtual 169, 3) := by decide +kernel
theorem dX4_part_158 : decode cX4_part 158 = .ok (.ifCond .eq 7, 3) := by decide +kernel
theorem dX4_part_161 : decode cX4_part 161 = .ok (.iconst 1, 1) := by decide +kernel
theorem dX4_part_162 : decode cX4_part 162 = .ok (.goto 4, 3) := by decide +kernel
theorem dX4_part_165 : decode cX4_part 165 = .ok (.iconst 0, 1) := by decide +kernel
theorem dX4_part_166 : decode cX4_part 166 = .ok (.ireturn, 1) := by decide +kernel
theorem dX4_part_167 : decode cX4_part 167 = .ok (.aload_n 0, 1) := by decide +kernel
theorem dX4_part_168 : decode cX4_part 168 = .ok (.getfield 10, 3) := by decide +kernel
theorem dX4_part_171 : decode cX4_part 171 = .ok (.iload_n 1, 1) := by decide +kernel
theorem dX4_part_172 : decode cX4_part 172 = .ok (.invokevirtual 172, 3) := by decide +kernel
theorem dX4_part_175 : decode cX4_part 175 = .ok (.ireturn, 1) := by decide +kernel
theorem dX4_part_176 : decode cX4_part 176 = .ok (.aload_n 0, 1) := by decide +kernel
theorem dX4_part_177 : decode cX4_part 177 = .ok (.getfield 10, 3) := by decide +kernel
theorem dX4_part_180 : decode cX4_part 180 = .ok (.getfield 59, 3) := by decide +kernel
theorem dX4_part_183 : decode cX4_part 183 = .ok (.iload_n 1, 1) := by decide +kernel
theorem dX4_part_184 : decode cX4_part 184 = .ok (.invokevirtual 175, 3) := by decide +kernel
theorem dX4_part_187 : decode cX4_part 187 = .ok (.ireturn, 1) := by decide +kernel
theorem dX4_part_188 : decode cX4_part 188 = .ok (.aload_n 0, 1) := by decide +kernel
theorem dX4_part_189 : decode cX4_part 189 = .ok (.getfield 10, 3) := by decide +kernel
theorem dX4_part_192 : decode cX4_part 192 = .ok (.getfield 59, 3) := by decide +kernel
theorem dX4_part_195 : decode cX4_part 195 = .ok (.iload_n 1, 1) := by decide +kernel
theorem dX4_part_196 : decode cX4_part 196 = .ok (.invokevirtual 178, 3) := by decide +kernel
theorem dX4_part_199 : decode cX4_part 199 = .ok (.ireturn, 1) := by decide +kernel
theorem dX4_part_200 : decode cX4_part 200 = .ok (.ldc 42, 2) := by decide +kernel
theorem dX4_part_202 : decode cX4_part 202 = .ok (.ireturn, 1) := by decide +kernel
theorem dX4_channelOf_0 : decode cX4_channelOf 0 = .ok (.aload_n 0, 1) := by decide +kernel
theorem dX4_channelOf_1 : decode cX4_channelOf 1 = .ok (.getfield 10, 3) := by decide +kernel
theorem dX4_channelOf_4 : decode cX4_channelOf 4 = .ok (.getfield 59, 3) := by decide +kernel
theorem dX4_channelOf_7 : decode cX4_channelOf 7 = .ok (.astore_n 3, 1) := by decide +kernel
theorem dX4_channelOf_8 : decode cX4_channelOf 8 = .ok (.iload_n 1, 1) := by decide +kernel
theorem dX4_channelOf_9 : decode cX4_channelOf 9 = .ok (.ifCond .lt 11, 3) := by decide +kernel
theorem dX4_channelOf_12 : decode cX4_channelOf 12 = .ok (.iload_n 1, 1) := by decide +kernel
theorem dX4_channelOf_13 : decode cX4_channelOf 13 = .ok (.aload_n 3, 1) := by decide +kernel
theorem dX4_channelOf_14 : decode cX4_channelOf 14 = .ok (.getfield 74, 3) := by decide +kernel
theorem dX4_channelOf_17 : decode cX4_channelOf 17 = .ok (.if_icmp .lt 6, 3) := by decide +kernel
theorem dX4_channelOf_20 : decode cX4_channelOf 20 = .ok (.ldc 58, 2) := by decide +kernel
theorem dX4_channelOf_22 : decode cX4_channelOf 22 = .ok (.ireturn, 1) := by decide +kernel
theorem dX4_channelOf_23 : decode cX4_channelOf 23 = .ok (.iload_n 2, 1) := by decide +kernel
theorem dX4_channelOf_24 : decode cX4_channelOf 24 = .ok (.tableswitch 93 0 6 #[44, 51, 58, 65, 72, 79, 86], 44) := by decide +kernel
theorem dX4_channelOf_68 : decode cX4_channelOf 68 = .ok (.aload_n 3, 1) := by decide +kernel
theorem dX4_channelOf_69 : decode cX4_channelOf 69 = .ok (.getfield 181, 3) := by decide +kernel
theorem dX4_channelOf_72 : decode cX4_channelOf 72 = .ok (.iload_n 1, 1) := by decide +kernel
theorem dX4_channelOf_73 : decode cX4_channelOf 73 = .ok (.iaload, 1) := by decide +kernel
theorem dX4_channelOf_74 : decode cX4_channelOf 74 = .ok (.ireturn, 1) := by decide +kernel
theorem dX4_channelOf_75 : decode cX4_channelOf 75 = .ok (.aload_n 3, 1) := by decide +kernel
theorem dX4_channelOf_76 : decode cX4_channelOf 76 = .ok (.getfield 184, 3) := by decide +kernel
theorem dX4_channelOf_79 : decode cX4_channelOf 79 = .ok (.iload_n 1, 1) := by decide +kernel
theorem dX4_channelOf_80 : decode cX4_channelOf 80 = .ok (.iaload, 1) := by decide +kernel
theorem dX4_channelOf_81 : decode cX4_channelOf 81 = .ok (.ireturn, 1) := by decide +kernel
theorem dX4_channelOf_82 : decode cX4_channelOf 82 = .ok (.aload_n 3, 1) := by decide +kernel
theorem dX4_channelOf_83 : decode cX4_channelOf 83 = .ok (.getfield 187, 3) := by decide +kernel
theorem dX4_channelOf_86 : decode cX4_channelOf 86 = .ok (.iload_n 1, 1) := by decide +kernel
theorem dX4_channelOf_87 : decode cX4_channelOf 87 = .ok (.iaload, 1) := by decide +kernel
theorem dX4_channelOf_88 : decode cX4_channelOf 88 = .ok (.ireturn, 1) := by decide +kernel
theorem dX4_channelOf_89 : decode cX4_channelOf 89 = .ok (.aload_n 3, 1) := by decide +kernel
theorem dX4_channelOf_90 : decode cX4_channelOf 90 = .ok (.getfield 190, 3) := by decide +kernel
theorem dX4_channelOf_93 : decode cX4_channelOf 93 = .ok (.iload_n 1, 1) := by decide +kernel
theorem dX4_channelOf_94 : decode cX4_channelOf 94 = .ok (.iaload, 1) := by decide +kernel
theorem dX4_channelOf_95 : decode cX4_channelOf 95 = .ok (.ireturn, 1) := by decide +kernel
theorem dX4_channelOf_96 : decode cX4_channelOf 96 = .ok (.aload_n 3, 1) := by decide +kernel
theorem dX4_channelOf_97 : decode cX4_channelOf 97 = .ok (.getfield 193, 3) := by decide +kernel
theorem dX4_channelOf_100 : decode cX4_channelOf 100 = .ok (.iload_n 1, 1) := by decide +kernel
theorem dX4_channelOf_101 : decode cX4_channelOf 101 = .ok (.iaload, 1) := by decide +kernel
theorem dX4_channelOf_102 : decode cX4_channelOf 102 = .ok (.ireturn, 1) := by decide +kernel
theorem dX4_channelOf_103 : decode cX4_channelOf 103 = .ok (.aload_n 3, 1) := by decide +kernel
theorem dX4_channelOf_104 : decode cX4_channelOf 104 = .ok (.getfield 196, 3) := by decide +kernel
theorem dX4_channelOf_107 : decode cX4_channelOf 107 = .ok (.iload_n 1, 1) := by decide +kernel
theorem dX4_channelOf_108 : decode cX4_channelOf 108 = .ok (.iaload, 1) := by decide +kernel
theorem dX4_channelOf_109 : decode cX4_channelOf 109 = .ok (.ireturn, 1) := by decide +kernel
theorem dX4_channelOf_110 : decode cX4_channelOf 110 = .ok (.aload_n 3, 1) := by decide +kernel
theorem dX4_channelOf_111 : decode cX4_channelOf 111 = .ok (.getfield 199, 3) := by decide +kernel
theorem dX4_channelOf_114 : decode cX4_channelOf 114 = .ok (.iload_n 1, 1) := by decide +kernel
theorem dX4_channelOf_115 : decode cX4_channelOf 115 = .ok (.iaload, 1) := by decide +kernel
theorem dX4_channelOf_116 : decode cX4_channelOf 116 = .ok (.ireturn, 1) := by decide +kernel
theorem dX4_channelOf_117 : decode cX4_channelOf 117 = .ok (.ldc 42, 2) := by decide +kernel
theorem dX4_channelOf_119 : decode cX4_channelOf 119 = .ok (.ireturn, 1) := by decide +kernel
theorem dX4_between_0 : decode cX4_between 0 = .ok (.aload_n 0, 1) := by decide +kernel
theorem dX4_between_1 : decode cX4_between 1 = .ok (.iload_n 1, 1) := by decide +kernel
theorem dX4_between_2 : decode cX4_between 2 = .ok (.iload_n 2, 1) := by decide +kernel
theorem dX4_between_3 : decode cX4_between 3 = .ok (.invokevirtual 54, 3) := by decide +kernel
theorem dX4_between_6 : decode cX4_between 6 = .ok (.ifCond .eq 6, 3) := by decide +kernel
theorem dX4_between_9 : decode cX4_between 9 = .ok (.ldc 58, 2) := by decide +kernel
theorem dX4_between_11 : decode cX4_between 11 = .ok (.ireturn, 1) := by decide +kernel
theorem dX4_between_12 : decode cX4_between 12 = .ok (.aload_n 0, 1) := by decide +kernel
theorem dX4_between_13 : decode cX4_between 13 = .ok (.getfield 10, 3) := by decide +kernel
theorem dX4_between_16 : decode cX4_between 16 = .ok (.getfield 59, 3) := by decide +kernel
theorem dX4_between_19 : decode cX4_between 19 = .ok (.iload_n 1, 1) := by decide +kernel
theorem dX4_between_20 : decode cX4_between 20 = .ok (.iload_n 2, 1) := by decide +kernel
theorem dX4_between_21 : decode cX4_between 21 = .ok (.invokevirtual 63, 3) := by decide +kernel
theorem dX4_between_24 : decode cX4_between 24 = .ok (.ireturn, 1) := by decide +kernel
theorem dX4_record_0 : decode cX4_record 0 = .ok (.iload_n 1, 1) := by decide +kernel
theorem dX4_record_1 : decode cX4_record 1 = .ok (.ifCond .lt 12, 3) := by decide +kernel
theorem dX4_record_4 : decode cX4_record 4 = .ok (.iload_n 2, 1) := by decide +kernel
theorem dX4_record_5 : decode cX4_record 5 = .ok (.iconst 0, 1) := by decide +kernel
theorem dX4_record_6 : decode cX4_record 6 = .ok (.iconst 3, 1) := by decide +kernel
theorem dX4_record_7 : decode cX4_record 7 = .ok (.invokestatic 38, 3) := by decide +kernel
theorem dX4_record_10 : decode cX4_record 10 = .ok (.ifCond .eq 6, 3) := by decide +kernel
theorem dX4_record_13 : decode cX4_record 13 = .ok (.ldc 42, 2) := by decide +kernel
theorem dX4_record_15 : decode cX4_record 15 = .ok (.ireturn, 1) := by decide +kernel
theorem dX4_record_16 : decode cX4_record 16 = .ok (.iload_n 1, 1) := by decide +kernel
theorem dX4_record_17 : decode cX4_record 17 = .ok (.aload_n 0, 1) := by decide +kernel
theorem dX4_record_18 : decode cX4_record 18 = .ok (.getfield 30, 3) := by decide +kernel
theorem dX4_record_21 : decode cX4_record 21 = .ok (.getfield 135, 3) := by decide +kernel
theorem dX4_record_24 : decode cX4_record 24 = .ok (.if_icmp .lt 5, 3) := by decide +kernel
theorem dX4_record_27 : decode cX4_record 27 = .ok (.iconst (-1), 1) := by decide +kernel
theorem dX4_record_28 : decode cX4_record 28 = .ok (.ireturn, 1) := by decide +kernel
theorem dX4_record_29 : decode cX4_record 29 = .ok (.iload_n 2, 1) := by decide +kernel
theorem dX4_record_30 : decode cX4_record 30 = .ok (.tableswitch 56 0 2 #[26, 36, 46], 26) := by decide +kernel
theorem dX4_record_56 : decode cX4_record 56 = .ok (.aload_n 0, 1) := by decide +kernel
theorem dX4_record_57 : decode cX4_record 57 = .ok (.getfield 30, 3) := by decide +kernel
theorem dX4_record_60 : decode cX4_record 60 = .ok (.getfield 202, 3) := by decide +kernel
theorem dX4_record_63 : decode cX4_record 63 = .ok (.iload_n 1, 1) := by decide +kernel
theorem dX4_record_64 : decode cX4_record 64 = .ok (.iaload, 1) := by decide +kernel
theorem dX4_record_65 : decode cX4_record 65 = .ok (.ireturn, 1) := by decide +kernel
theorem dX4_record_66 : decode cX4_record 66 = .ok (.aload_n 0, 1) := by decide +kernel
theorem dX4_record_67 : decode cX4_record 67 = .ok (.getfield 30, 3) := by decide +kernel
theorem dX4_record_70 : decode cX4_record 70 = .ok (.getfield 205, 3) := by decide +kernel
theorem dX4_record_73 : decode cX4_record 73 = .ok (.iload_n 1, 1) := by decide +kernel
theorem dX4_record_74 : decode cX4_record 74 = .ok (.iaload, 1) := by decide +kernel
theorem dX4_record_75 : decode cX4_record 75 = .ok (.ireturn, 1) := by decide +kernel
theorem dX4_record_76 : decode cX4_record 76 = .ok (.aload_n 0, 1) := by decide +kernel
theorem dX4_record_77 : decode cX4_record 77 = .ok (.getfield 30, 3) := by decide +kernel
theorem dX4_record_80 : decode cX4_record 80 = .ok (.getfield 208, 3) := by decide +kernel
theorem dX4_record_83 : decode cX4_record 83 = .ok (.iload_n 1, 1) := by decide +kernel
theorem dX4_record_84 : decode cX4_record 84 = .ok (.iaload, 1) := by decide +kernel
theorem dX4_record_85 : decode cX4_record 85 = .ok (.ireturn, 1) := by decide +kernel
theorem dX4_record_86 : decode cX4_record 86 = .ok (.aload_n 0, 1) := by decide +kernel
theorem dX4_record_87 : decode cX4_record 87 = .ok (.getfield 30, 3) := by decide +kernel
theorem dX4_record_90 : decode cX4_record 90 = .ok (.getfield 211, 3) := by decide +kernel
theorem dX4_record_93 : decode cX4_record 93 = .ok (.iload_n 1, 1) := by decide +kernel
theorem dX4_record_94 : decode cX4_record 94 = .ok (.iaload, 1) := by decide +kernel
theorem dX4_record_95 : decode cX4_record 95 = .ok (.ireturn, 1) := by decide +kernel
theorem dX4_ring_0 : decode cX4_ring 0 = .ok (.aload_n 0, 1) := by decide +kernel
theorem dX4_ring_1 : decode cX4_ring 1 = .ok (.iload_n 1, 1) := by decide +kernel
theorem dX4_ring_2 : decode cX4_ring 2 = .ok (.invokevirtual 143, 3) := by decide +kernel
theorem dX4_ring_5 : decode cX4_ring 5 = .ok (.ifCond .eq 6, 3) := by decide +kernel
theorem dX4_ring_8 : decode cX4_ring 8 = .ok (.ldc 58, 2) := by decide +kernel
theorem dX4_ring_10 : decode cX4_ring 10 = .ok (.ireturn, 1) := by decide +kernel
theorem dX4_ring_11 : decode cX4_ring 11 = .ok (.aload_n 0, 1) := by decide +kernel
theorem dX4_ring_12 : decode cX4_ring 12 = .ok (.iload_n 1, 1) := by decide +kernel
theorem dX4_ring_13 : decode cX4_ring 13 = .ok (.invokevirtual 214, 3) := by decide +kernel
theorem dX4_ring_16 : decode cX4_ring 16 = .ok (.istore_n 2, 1) := by decide +kernel
theorem dX4_ring_17 : decode cX4_ring 17 = .ok (.iload_n 2, 1) := by decide +kernel
theorem dX4_ring_18 : decode cX4_ring 18 = .ok (.ldc 217, 2) := by decide +kernel
theorem dX4_ring_20 : decode cX4_ring 20 = .ok (.if_icmp .ne 7, 3) := by decide +kernel
theorem dX4_ring_23 : decode cX4_ring 23 = .ok (.iconst (-1), 1) := by decide +kernel
theorem dX4_ring_24 : decode cX4_ring 24 = .ok (.goto 4, 3) := by decide +kernel
theorem dX4_ring_27 : decode cX4_ring 27 = .ok (.iload_n 2, 1) := by decide +kernel
theorem dX4_ring_28 : decode cX4_ring 28 = .ok (.ireturn, 1) := by decide +kernel
theorem dX4_waits_0 : decode cX4_waits 0 = .ok (.aload_n 0, 1) := by decide +kernel
theorem dX4_waits_1 : decode cX4_waits 1 = .ok (.iload_n 1, 1) := by decide +kernel
theorem dX4_waits_2 : decode cX4_waits 2 = .ok (.invokevirtual 143, 3) := by decide +kernel
theorem dX4_waits_5 : decode cX4_waits 5 = .ok (.ifCond .eq 6, 3) := by decide +kernel
theorem dX4_waits_8 : decode cX4_waits 8 = .ok (.ldc 58, 2) := by decide +kernel
theorem dX4_waits_10 : decode cX4_waits 10 = .ok (.ireturn, 1) := by decide +kernel
theorem dX4_waits_11 : decode cX4_waits 11 = .ok (.iconst 0, 1) := by decide +kernel
theorem dX4_waits_12 : decode cX4_waits 12 = .ok (.istore_n 2, 1) := by decide +kernel
theorem dX4_waits_13 : decode cX4_waits 13 = .ok (.iload_n 1, 1) := by decide +kernel
theorem dX4_waits_14 : decode cX4_waits 14 = .ok (.istore_n 3, 1) := by decide +kernel
theorem dX4_waits_15 : decode cX4_waits 15 = .ok (.iconst 0, 1) := by decide +kernel
theorem dX4_waits_16 : decode cX4_waits 16 = .ok (.istore 4, 2) := by decide +kernel
theorem dX4_waits_18 : decode cX4_waits 18 = .ok (.iload 4, 2) := by decide +kernel
theorem dX4_waits_20 : decode cX4_waits 20 = .ok (.bipush 6, 2) := by decide +kernel
theorem dX4_waits_22 : decode cX4_waits 22 = .ok (.if_icmp .ge 47, 3) := by decide +kernel
theorem dX4_waits_25 : decode cX4_waits 25 = .ok (.aload_n 0, 1) := by decide +kernel
theorem dX4_waits_26 : decode cX4_waits 26 = .ok (.getfield 10, 3) := by decide +kernel
theorem dX4_waits_29 : decode cX4_waits 29 = .ok (.iload_n 3, 1) := by decide +kernel
theorem dX4_waits_30 : decode cX4_waits 30 = .ok (.invokevirtual 172, 3) := by decide +kernel
theorem dX4_waits_33 : decode cX4_waits 33 = .ok (.istore 5, 2) := by decide +kernel
theorem dX4_waits_35 : decode cX4_waits 35 = .ok (.iload 5, 2) := by decide +kernel
theorem dX4_waits_37 : decode cX4_waits 37 = .ok (.iconst (-1), 1) := by decide +kernel
theorem dX4_waits_38 : decode cX4_waits 38 = .ok (.if_icmp .ne 5, 3) := by decide +kernel
theorem dX4_waits_41 : decode cX4_waits 41 = .ok (.iload_n 2, 1) := by decide +kernel
theorem dX4_waits_42 : decode cX4_waits 42 = .ok (.ireturn, 1) := by decide +kernel
theorem dX4_waits_43 : decode cX4_waits 43 = .ok (.aload_n 0, 1) := by decide +kernel
theorem dX4_waits_44 : decode cX4_waits 44 = .ok (.getfield 10, 3) := by decide +kernel
theorem dX4_waits_47 : decode cX4_waits 47 = .ok (.getfield 59, 3) := by decide +kernel
theorem dX4_waits_50 : decode cX4_waits 50 = .ok (.getfield 181, 3) := by decide +kernel
theorem dX4_waits_53 : decode cX4_waits 53 = .ok (.iload 5, 2) := by decide +kernel
theorem dX4_waits_55 : decode cX4_waits 55 = .ok (.iaload, 1) := by decide +kernel
theorem dX4_waits_56 : decode cX4_waits 56 = .ok (.istore_n 3, 1) := by decide +kernel
theorem dX4_waits_57 : decode cX4_waits 57 = .ok (.iload_n 2, 1) := by decide +kernel
theorem dX4_waits_58 : decode cX4_waits 58 = .ok (.iconst 1, 1) := by decide +kernel
theorem dX4_waits_59 : decode cX4_waits 59 = .ok (.iload_n 3, 1) := by decide +kernel
theorem dX4_waits_60 : decode cX4_waits 60 = .ok (.ishl, 1) := by decide +kernel
theorem dX4_waits_61 : decode cX4_waits 61 = .ok (.ior, 1) := by decide +kernel
theorem dX4_waits_62 : decode cX4_waits 62 = .ok (.istore_n 2, 1) := by decide +kernel
theorem dX4_waits_63 : decode cX4_waits 63 = .ok (.iinc 4 1, 3) := by decide +kernel
theorem dX4_waits_66 : decode cX4_waits 66 = .ok (.goto (-48), 3) := by decide +kernel
theorem dX4_waits_69 : decode cX4_waits 69 = .ok (.iload_n 2, 1) := by decide +kernel
theorem dX4_waits_70 : decode cX4_waits 70 = .ok (.ireturn, 1) := by decide +kernel
theorem dX4_inOrder_0 : decode cX4_inOrder 0 = .ok (.aload_n 0, 1) := by decide +kernel
theorem dX4_inOrder_1 : decode cX4_inOrder 1 = .ok (.iload_n 1, 1) := by decide +kernel
theorem dX4_inOrder_2 : decode cX4_inOrder 2 = .ok (.invokevirtual 143, 3) := by decide +kernel
theorem dX4_inOrder_5 : decode cX4_inOrder 5 = .ok (.ifCond .eq 6, 3) := by decide +kernel
theorem dX4_inOrder_8 : decode cX4_inOrder 8 = .ok (.ldc 58, 2) := by decide +kernel
theorem dX4_inOrder_10 : decode cX4_inOrder 10 = .ok (.ireturn, 1) := by decide +kernel
theorem dX4_inOrder_11 : decode cX4_inOrder 11 = .ok (.iload_n 2, 1) := by decide +kernel
theorem dX4_inOrder_12 : decode cX4_inOrder 12 = .ok (.iconst 0, 1) := by decide +kernel
theorem dX4_inOrder_13 : decode cX4_inOrder 13 = .ok (.iconst 1, 1) := by decide +kernel
theorem dX4_inOrder_14 : decode cX4_inOrder 14 = .ok (.invokestatic 38, 3) := by decide +kernel
theorem dX4_inOrder_17 : decode cX4_inOrder 17 = .ok (.ifCond .eq 6, 3) := by decide +kernel
theorem dX4_inOrder_20 : decode cX4_inOrder 20 = .ok (.ldc 42, 2) := by decide +kernel
theorem dX4_inOrder_22 : decode cX4_inOrder 22 = .ok (.ireturn, 1) := by decide +kernel
theorem dX4_inOrder_23 : decode cX4_inOrder 23 = .ok (.aload_n 0, 1) := by decide +kernel
theorem dX4_inOrder_24 : decode cX4_inOrder 24 = .ok (.getfield 16, 3) := by decide +kernel
theorem dX4_inOrder_27 : decode cX4_inOrder 27 = .ok (.aload_n 0, 1) := by decide +kernel
theorem dX4_inOrder_28 : decode cX4_inOrder 28 = .ok (.getfield 10, 3) := by decide +kernel
theorem dX4_inOrder_31 : decode cX4_inOrder 31 = .ok (.invokevirtual 218, 3) := by decide +kernel
theorem dX4_inOrder_34 : decode cX4_inOrder 34 = .ok (.iconst 0, 1) := by decide +kernel
theorem dX4_inOrder_35 : decode cX4_inOrder 35 = .ok (.istore_n 3, 1) := by decide +kernel
theorem dX4_inOrder_36 : decode cX4_inOrder 36 = .ok (.iload_n 3, 1) := by decide +kernel
theorem dX4_inOrder_37 : decode cX4_inOrder 37 = .ok (.sipush 300, 3) := by decide +kernel
theorem dX4_inOrder_40 : decode cX4_inOrder 40 = .ok (.if_icmp .ge 33, 3) := by decide +kernel
theorem dX4_inOrder_43 : decode cX4_inOrder 43 = .ok (.aload_n 0, 1) := by decide +kernel
theorem dX4_inOrder_44 : decode cX4_inOrder 44 = .ok (.getfield 16, 3) := by decide +kernel
theorem dX4_inOrder_47 : decode cX4_inOrder 47 = .ok (.invokevirtual 111, 3) := by decide +kernel
theorem dX4_inOrder_50 : decode cX4_inOrder 50 = .ok (.ifCond .le 23, 3) := by decide +kernel
theorem dX4_inOrder_53 : decode cX4_inOrder 53 = .ok (.aload_n 0, 1) := by decide +kernel
theorem dX4_inOrder_54 : decode cX4_inOrder 54 = .ok (.getfield 16, 3) := by decide +kernel
theorem dX4_inOrder_57 : decode cX4_inOrder 57 = .ok (.aload_n 0, 1) := by decide +kernel
theorem dX4_inOrder_58 : decode cX4_inOrder 58 = .ok (.getfield 16, 3) := by decide +kernel
theorem dX4_inOrder_61 : decode cX4_inOrder 61 = .ok (.invokevirtual 222, 3) := by decide +kernel
theorem dX4_inOrder_64 : decode cX4_inOrder 64 = .ok (.invokevirtual 225, 3) := by decide +kernel
theorem dX4_inOrder_67 : decode cX4_inOrder 67 = .ok (.iinc 3 1, 3) := by decide +kernel
theorem dX4_inOrder_70 : decode cX4_inOrder 70 = .ok (.goto (-34), 3) := by decide +kernel
theorem dX4_inOrder_73 : decode cX4_inOrder 73 = .ok (.iload_n 2, 1) := by decide +kernel
theorem dX4_inOrder_74 : decode cX4_inOrder 74 = .ok (.ifCond .ne 15, 3) := by decide +kernel
theorem dX4_inOrder_77 : decode cX4_inOrder 77 = .ok (.aload_n 0, 1) := by decide +kernel
theorem dX4_inOrder_78 : decode cX4_inOrder 78 = .ok (.getfield 16, 3) := by decide +kernel
theorem dX4_inOrder_81 : decode cX4_inOrder 81 = .ok (.getfield 146, 3) := by decide +kernel
theorem dX4_inOrder_84 : decode cX4_inOrder 84 = .ok (.iload_n 1, 1) := by decide +kernel
theorem dX4_inOrder_85 : decode cX4_inOrder 85 = .ok (.iaload, 1) := by decide +kernel
theorem dX4_inOrder_86 : decode cX4_inOrder 86 = .ok (.goto 12, 3) := by decide +kernel
theorem dX4_inOrder_89 : decode cX4_inOrder 89 = .ok (.aload_n 0, 1) := by decide +kernel
theorem dX4_inOrder_90 : decode cX4_inOrder 90 = .ok (.getfield 16, 3) := by decide +kernel
theorem dX4_inOrder_93 : decode cX4_inOrder 93 = .ok (.getfield 149, 3) := by decide +kernel
theorem dX4_inOrder_96 : decode cX4_inOrder 96 = .ok (.iload_n 1, 1) := by decide +kernel
theorem dX4_inOrder_97 : decode cX4_inOrder 97 = .ok (.iaload, 1) := by decide +kernel
theorem dX4_inOrder_98 : decode cX4_inOrder 98 = .ok (.ireturn, 1) := by decide +kernel
theorem dX4_keep_0 : decode cX4_keep 0 = .ok (.iload_n 1, 1) := by decide +kernel
theorem dX4_keep_1 : decode cX4_keep 1 = .ok (.invokestatic 228, 3) := by decide +kernel
theorem dX4_keep_4 : decode cX4_keep 4 = .ok (.ifCond .eq 6, 3) := by decide +kernel
theorem dX4_keep_7 : decode cX4_keep 7 = .ok (.ldc 58, 2) := by decide +kernel
theorem dX4_keep_9 : decode cX4_keep 9 = .ok (.ireturn, 1) := by decide +kernel
theorem dX4_keep_10 : decode cX4_keep 10 = .ok (.aload_n 0, 1) := by decide +kernel
theorem dX4_keep_11 : decode cX4_keep 11 = .ok (.getfield 19, 3) := by decide +kernel
theorem dX4_keep_14 : decode cX4_keep 14 = .ok (.iload_n 1, 1) := by decide +kernel
theorem dX4_keep_15 : decode cX4_keep 15 = .ok (.aaload, 1) := by decide +kernel
theorem dX4_keep_16 : decode cX4_keep 16 = .ok (.aload_n 0, 1) := by decide +kernel
theorem dX4_keep_17 : decode cX4_keep 17 = .ok (.getfield 10, 3) := by decide +kernel
theorem dX4_keep_20 : decode cX4_keep 20 = .ok (.invokevirtual 218, 3) := by decide +kernel
theorem dX4_keep_23 : decode cX4_keep 23 = .ok (.aload_n 0, 1) := by decide +kernel
theorem dX4_keep_24 : decode cX4_keep 24 = .ok (.getfield 23, 3) := by decide +kernel
theorem dX4_keep_27 : decode cX4_keep 27 = .ok (.iload_n 1, 1) := by decide +kernel
theorem dX4_keep_28 : decode cX4_keep 28 = .ok (.iconst 1, 1) := by decide +kernel
theorem dX4_keep_29 : decode cX4_keep 29 = .ok (.bastore, 1) := by decide +kernel
theorem dX4_keep_30 : decode cX4_keep 30 = .ok (.iconst 1, 1) := by decide +kernel
theorem dX4_keep_31 : decode cX4_keep 31 = .ok (.ireturn, 1) := by decide +kernel
theorem dX4_goBack_0 : decode cX4_goBack 0 = .ok (.iload_n 1, 1) := by decide +kernel
theorem dX4_goBack_1 : decode cX4_goBack 1 = .ok (.invokestatic 228, 3) := by decide +kernel
theorem dX4_goBack_4 : decode cX4_goBack 4 = .ok (.ifCond .eq 6, 3) := by decide +kernel
theorem dX4_goBack_7 : decode cX4_goBack 7 = .ok (.ldc 58, 2) := by decide +kernel
theorem dX4_goBack_9 : decode cX4_goBack 9 = .ok (.ireturn, 1) := by decide +kernel
theorem dX4_goBack_10 : decode cX4_goBack 10 = .ok (.aload_n 0, 1) := by decide +kernel
theorem dX4_goBack_11 : decode cX4_goBack 11 = .ok (.getfield 23, 3) := by decide +kernel
theorem dX4_goBack_14 : decode cX4_goBack 14 = .ok (.iload_n 1, 1) := by decide +kernel
theorem dX4_goBack_15 : decode cX4_goBack 15 = .ok (.baload, 1) := by decide +kernel
theorem dX4_goBack_16 : decode cX4_goBack 16 = .ok (.ifCond .ne 6, 3) := by decide +kernel
theorem dX4_goBack_19 : decode cX4_goBack 19 = .ok (.ldc 73, 2) := by decide +kernel
theorem dX4_goBack_21 : decode cX4_goBack 21 = .ok (.ireturn, 1) := by decide +kernel
theorem dX4_goBack_22 : decode cX4_goBack 22 = .ok (.aload_n 0, 1) := by decide +kernel
theorem dX4_goBack_23 : decode cX4_goBack 23 = .ok (.getfield 10, 3) := by decide +kernel
theorem dX4_goBack_26 : decode cX4_goBack 26 = .ok (.aload_n 0, 1) := by decide +kernel
theorem dX4_goBack_27 : decode cX4_goBack 27 = .ok (.getfield 19, 3) := by decide +kernel
theorem dX4_goBack_30 : decode cX4_goBack 30 = .ok (.iload_n 1, 1) := by decide +kernel
theorem dX4_goBack_31 : decode cX4_goBack 31 = .ok (.aaload, 1) := by decide +kernel
theorem dX4_goBack_32 : decode cX4_goBack 32 = .ok (.invokevirtual 218, 3) := by decide +kernel
theorem dX4_goBack_35 : decode cX4_goBack 35 = .ok (.iconst 1, 1) := by decide +kernel
theorem dX4_goBack_36 : decode cX4_goBack 36 = .ok (.ireturn, 1) := by decide +kernel
theorem dX4_isOutside_0 : decode cX4_isOutside 0 = .ok (.iload_n 0, 1) := by decide +kernel
theorem dX4_isOutside_1 : decode cX4_isOutside 1 = .ok (.iload_n 1, 1) := by decide +kernel
theorem dX4_isOutside_2 : decode cX4_isOutside 2 = .ok (.if_icmp .lt 8, 3) := by decide +kernel
theorem dX4_isOutside_5 : decode cX4_isOutside 5 = .ok (.iload_n 0, 1) := by decide +kernel
theorem dX4_isOutside_6 : decode cX4_isOutside 6 = .ok (.iload_n 2, 1) := by decide +kernel
theorem dX4_isOutside_7 : decode cX4_isOutside 7 = .ok (.if_icmp .le 7, 3) := by decide +kernel
theorem dX4_isOutside_10 : decode cX4_isOutside 10 = .ok (.iconst 1, 1) := by decide +kernel
theorem dX4_isOutside_11 : decode cX4_isOutside 11 = .ok (.goto 4, 3) := by decide +kernel
theorem dX4_isOutside_14 : decode cX4_isOutside 14 = .ok (.iconst 0, 1) := by decide +kernel
theorem dX4_isOutside_15 : decode cX4_isOutside 15 = .ok (.ireturn, 1) := by decide +kernel
theorem dX4_isNoImage_0 : decode cX4_isNoImage 0 = .ok (.iload_n 0, 1) := by decide +kernel
theorem dX4_isNoImage_1 : decode cX4_isNoImage 1 = .ok (.ifCond .lt 8, 3) := by decide +kernel
theorem dX4_isNoImage_4 : decode cX4_isNoImage 4 = .ok (.iload_n 0, 1) := by decide +kernel
theorem dX4_isNoImage_5 : decode cX4_isNoImage 5 = .ok (.iconst 2, 1) := by decide +kernel
theorem dX4_isNoImage_6 : decode cX4_isNoImage 6 = .ok (.if_icmp .lt 7, 3) := by decide +kernel
theorem dX4_isNoImage_9 : decode cX4_isNoImage 9 = .ok (.iconst 1, 1) := by decide +kernel
theorem dX4_isNoImage_10 : decode cX4_isNoImage 10 = .ok (.goto 4, 3) := by decide +kernel
theorem dX4_isNoImage_13 : decode cX4_isNoImage 13 = .ok (.iconst 0, 1) := by decide +kernel
theorem dX4_isNoImage_14 : decode cX4_isNoImage 14 = .ok (.ireturn, 1) := by decide +kernel
theorem dX4_isNoPart_0 : decode cX4_isNoPart 0 = .ok (.iload_n 1, 1) := by decide +kernel
theorem dX4_isNoPart_1 : decode cX4_isNoPart 1 = .ok (.ifCond .lt 14, 3) := by decide +kernel
theorem dX4_isNoPart_4 : decode cX4_isNoPart 4 = .ok (.iload_n 1, 1) := by decide +kernel
theorem dX4_isNoPart_5 : decode cX4_isNoPart 5 = .ok (.aload_n 0, 1) := by decide +kernel
theorem dX4_isNoPart_6 : decode cX4_isNoPart 6 = .ok (.getfield 10, 3) := by decide +kernel
theorem dX4_isNoPart_9 : decode cX4_isNoPart 9 = .ok (.getfield 93, 3) := by decide +kernel
theorem dX4_isNoPart_12 : decode cX4_isNoPart 12 = .ok (.if_icmp .lt 7, 3) := by decide +kernel
theorem dX4_isNoPart_15 : decode cX4_isNoPart 15 = .ok (.iconst 1, 1) := by decide +kernel
theorem dX4_isNoPart_16 : decode cX4_isNoPart 16 = .ok (.goto 4, 3) := by decide +kernel
theorem dX4_isNoPart_19 : decode cX4_isNoPart 19 = .ok (.iconst 0, 1) := by decide +kernel
theorem dX4_isNoPart_20 : decode cX4_isNoPart 20 = .ok (.ireturn, 1) := by decide +kernel
theorem dX4_areNotTwoParts_0 : decode cX4_areNotTwoParts 0 = .ok (.aload_n 0, 1) := by decide +kernel
theorem dX4_areNotTwoParts_1 : decode cX4_areNotTwoParts 1 = .ok (.iload_n 1, 1) := by decide +kernel
theorem dX4_areNotTwoParts_2 : decode cX4_areNotTwoParts 2 = .ok (.invokevirtual 143, 3) := by decide +kernel
theorem dX4_areNotTwoParts_5 : decode cX4_areNotTwoParts 5 = .ok (.ifCond .ne 16, 3) := by decide +kernel
theorem dX4_areNotTwoParts_8 : decode cX4_areNotTwoParts 8 = .ok (.aload_n 0, 1) := by decide +kernel
theorem dX4_areNotTwoParts_9 : decode cX4_areNotTwoParts 9 = .ok (.iload_n 2, 1) := by decide +kernel
theorem dX4_areNotTwoParts_10 : decode cX4_areNotTwoParts 10 = .ok (.invokevirtual 143, 3) := by decide +kernel
theorem dX4_areNotTwoParts_13 : decode cX4_areNotTwoParts 13 = .ok (.ifCond .ne 8, 3) := by decide +kernel
theorem dX4_areNotTwoParts_16 : decode cX4_areNotTwoParts 16 = .ok (.iload_n 1, 1) := by decide +kernel
theorem dX4_areNotTwoParts_17 : decode cX4_areNotTwoParts 17 = .ok (.iload_n 2, 1) := by decide +kernel
theorem dX4_areNotTwoParts_18 : decode cX4_areNotTwoParts 18 = .ok (.if_icmp .ne 7, 3) := by decide +kernel
theorem dX4_areNotTwoParts_21 : decode cX4_areNotTwoParts 21 = .ok (.iconst 1, 1) := by decide +kernel
theorem dX4_areNotTwoParts_22 : decode cX4_areNotTwoParts 22 = .ok (.goto 4, 3) := by decide +kernel
theorem dX4_areNotTwoParts_25 : decode cX4_areNotTwoParts 25 = .ok (.iconst 0, 1) := by decide +kernel
theorem dX4_areNotTwoParts_26 : decode cX4_areNotTwoParts 26 = .ok (.ireturn, 1) := by decide +kernel
theorem dX4_refusalOfEvent_0 : decode cX4_refusalOfEvent 0 = .ok (.aload_n 0, 1) := by decide +kernel
theorem dX4_refusalOfEvent_1 : decode cX4_refusalOfEvent 1 = .ok (.iload_n 1, 1) := by decide +kernel
theorem dX4_refusalOfEvent_2 : decode cX4_refusalOfEvent 2 = .ok (.invokevirtual 143, 3) := by decide +kernel
theorem dX4_refusalOfEvent_5 : decode cX4_refusalOfEvent 5 = .ok (.ifCond .eq 6, 3) := by decide +kernel
theorem dX4_refusalOfEvent_8 : decode cX4_refusalOfEvent 8 = .ok (.ldc 58, 2) := by decide +kernel
theorem dX4_refusalOfEvent_10 : decode cX4_refusalOfEvent 10 = .ok (.ireturn, 1) := by decide +kernel
theorem dX4_refusalOfEvent_11 : decode cX4_refusalOfEvent 11 = .ok (.iload_n 2, 1) := by decide +kernel
theorem dX4_refusalOfEvent_12 : decode cX4_refusalOfEvent 12 = .ok (.iconst 0, 1) := by decide +kernel
theorem dX4_refusalOfEvent_13 : decode cX4_refusalOfEvent 13 = .ok (.sipush 9999, 3) := by decide +kernel
theorem dX4_refusalOfEvent_16 : decode cX4_refusalOfEvent 16 = .ok (.invokestatic 38, 3) := by decide +kernel
theorem dX4_refusalOfEvent_19 : decode cX4_refusalOfEvent 19 = .ok (.ifCond .ne 13, 3) := by decide +kernel
theorem dX4_refusalOfEvent_22 : decode cX4_refusalOfEvent 22 = .ok (.iload_n 3, 1) := by decide +kernel
theorem dX4_refusalOfEvent_23 : decode cX4_refusalOfEvent 23 = .ok (.iconst 0, 1) := by decide +kernel
theorem dX4_refusalOfEvent_24 : decode cX4_refusalOfEvent 24 = .ok (.bipush 99, 2) := by decide +kernel
theorem dX4_refusalOfEvent_26 : decode cX4_refusalOfEvent 26 = .ok (.invokestatic 38, 3) := by decide +kernel
theorem dX4_refusalOfEvent_29 : decode cX4_refusalOfEvent 29 = .ok (.ifCond .eq 6, 3) := by decide +kernel
theorem dX4_refusalOfEvent_32 : decode cX4_refusalOfEvent 32 = .ok (.ldc 42, 2) := by decide +kernel
theorem dX4_refusalOfEvent_34 : decode cX4_refusalOfEvent 34 = .ok (.ireturn, 1) := by decide +kernel
theorem dX4_refusalOfEvent_35 : decode cX4_refusalOfEvent 35 = .ok (.aload_n 0, 1) := by decide +kernel
theorem dX4_refusalOfEvent_36 : decode cX4_refusalOfEvent 36 = .ok (.getfield 10, 3) := by decide +kernel
theorem dX4_refusalOfEvent_39 : decode cX4_refusalOfEvent 39 = .ok (.iload_n 1, 1) := by decide +kernel
theorem dX4_refusalOfEvent_40 : decode cX4_refusalOfEvent 40 = .ok (.iload_n 2, 1) := by decide +kernel
theorem dX4_refusalOfEvent_41 : decode cX4_refusalOfEvent 41 = .ok (.invokevirtual 231, 3) := by decide +kernel
theorem dX4_refusalOfEvent_44 : decode cX4_refusalOfEvent 44 = .ok (.ifCond .ne 18, 3) := by decide +kernel
theorem dX4_refusalOfEvent_47 : decode cX4_refusalOfEvent 47 = .ok (.aload_n 0, 1) := by decide +kernel
theorem dX4_refusalOfEvent_48 : decode cX4_refusalOfEvent 48 = .ok (.getfield 10, 3) := by decide +kernel
theorem dX4_refusalOfEvent_51 : decode cX4_refusalOfEvent 51 = .ok (.getfield 59, 3) := by decide +kernel
theorem dX4_refusalOfEvent_54 : decode cX4_refusalOfEvent 54 = .ok (.iload_n 1, 1) := by decide +kernel
theorem dX4_refusalOfEvent_55 : decode cX4_refusalOfEvent 55 = .ok (.iload_n 2, 1) := by decide +kernel
theorem dX4_refusalOfEvent_56 : decode cX4_refusalOfEvent 56 = .ok (.invokevirtual 234, 3) := by decide +kernel
theorem dX4_refusalOfEvent_59 : decode cX4_refusalOfEvent 59 = .ok (.ifCond .eq 6, 3) := by decide +kernel
theorem dX4_refusalOfEvent_62 : decode cX4_refusalOfEvent 62 = .ok (.ldc 73, 2) := by decide +kernel
theorem dX4_refusalOfEvent_64 : decode cX4_refusalOfEvent 64 = .ok (.ireturn, 1) := by decide +kernel
theorem dX4_refusalOfEvent_65 : decode cX4_refusalOfEvent 65 = .ok (.aload_n 0, 1) := by decide +kernel
theorem dX4_refusalOfEvent_66 : decode cX4_refusalOfEvent 66 = .ok (.getfield 10, 3) := by decide +kernel
theorem dX4_refusalOfEvent_69 : decode cX4_refusalOfEvent 69 = .ok (.getfield 140, 3) := by decide +kernel
theorem dX4_refusalOfEvent_72 : decode cX4_refusalOfEvent 72 = .ok (.bipush 30, 2) := by decide +kernel
theorem dX4_refusalOfEvent_74 : decode cX4_refusalOfEvent 74 = .ok (.if_icmp .lt 8, 3) := by decide +kernel
theorem dX4_refusalOfEvent_77 : decode cX4_refusalOfEvent 77 = .ok (.ldc 77, 2) := by decide +kernel
theorem dX4_refusalOfEvent_79 : decode cX4_refusalOfEvent 79 = .ok (.goto 4, 3) := by decide +kernel
theorem dX4_refusalOfEvent_82 : decode cX4_refusalOfEvent 82 = .ok (.iconst 0, 1) := by decide +kernel
theorem dX4_refusalOfEvent_83 : decode cX4_refusalOfEvent 83 = .ok (.ireturn, 1) := by decide +kernel
theorem dX4_nothingIsRun_0 : decode cX4_nothingIsRun 0 = .ok (.aload_n 0, 1) := by decide +kernel
theorem dX4_nothingIsRun_1 : decode cX4_nothingIsRun 1 = .ok (.getfield 10, 3) := by decide +kernel
theorem dX4_nothingIsRun_4 : decode cX4_nothingIsRun 4 = .ok (.getfield 93, 3) := by decide +kernel
theorem dX4_nothingIsRun_7 : decode cX4_nothingIsRun 7 = .ok (.ifCond .ne 5, 3) := by decide +kernel
theorem dX4_nothingIsRun_10 : decode cX4_nothingIsRun 10 = .ok (.iconst 1, 1) := by decide +kernel
theorem dX4_nothingIsRun_11 : decode cX4_nothingIsRun 11 = .ok (.ireturn, 1) := by decide +kernel
theorem dX4_nothingIsRun_12 : decode cX4_nothingIsRun 12 = .ok (.aload_n 0, 1) := by decide +kernel
theorem dX4_nothingIsRun_13 : decode cX4_nothingIsRun 13 = .ok (.getfield 10, 3) := by decide +kernel
theorem dX4_nothingIsRun_16 : decode cX4_nothingIsRun 16 = .ok (.getfield 89, 3) := by decide +kernel
theorem dX4_nothingIsRun_19 : decode cX4_nothingIsRun 19 = .ok (.iconst 1, 1) := by decide +kernel
theorem dX4_nothingIsRun_20 : decode cX4_nothingIsRun 20 = .ok (.if_icmp .eq 27, 3) := by decide +kernel
theorem dX4_nothingIsRun_23 : decode cX4_nothingIsRun 23 = .ok (.aload_n 0, 1) := by decide +kernel
theorem dX4_nothingIsRun_24 : decode cX4_nothingIsRun 24 = .ok (.getfield 10, 3) := by decide +kernel
theorem dX4_nothingIsRun_27 : decode cX4_nothingIsRun 27 = .ok (.getfield 59, 3) := by decide +kernel
theorem dX4_nothingIsRun_30 : decode cX4_nothingIsRun 30 = .ok (.aload_n 0, 1) := by decide +kernel
theorem dX4_nothingIsRun_31 : decode cX4_nothingIsRun 31 = .ok (.getfield 10, 3) := by decide +kernel
theorem dX4_nothingIsRun_34 : decode cX4_nothingIsRun 34 = .ok (.getfield 93, 3) := by decide +kernel
theorem dX4_nothingIsRun_37 : decode cX4_nothingIsRun 37 = .ok (.invokevirtual 136, 3) := by decide +kernel
theorem dX4_nothingIsRun_40 : decode cX4_nothingIsRun 40 = .ok (.ifCond .eq 7, 3) := by decide +kernel
theorem dX4_nothingIsRun_43 : decode cX4_nothingIsRun 43 = .ok (.iconst 1, 1) := by decide +kernel
theorem dX4_nothingIsRun_44 : decode cX4_nothingIsRun 44 = .ok (.goto 4, 3) := by decide +kernel
theorem dX4_nothingIsRun_47 : decode cX4_nothingIsRun 47 = .ok (.iconst 0, 1) := by decide +kernel
theorem dX4_nothingIsRun_48 : decode cX4_nothingIsRun 48 = .ok (.ireturn, 1) := by decide +kernel
theorem dX4_nextLot_0 : decode cX4_nextLot 0 = .ok (.lload_n 0, 1) := by decide +kernel
theorem dX4_nextLot_1 : decode cX4_nextLot 1 = .ok (.ldc2_w 237, 3) := by decide +kernel
theorem dX4_nextLot_4 : decode cX4_nextLot 4 = .ok (.lmul, 1) := by decide +kernel
theorem dX4_nextLot_5 : decode cX4_nextLot 5 = .ok (.ldc2_w 239, 3) := by decide +kernel
theorem dX4_nextLot_8 : decode cX4_nextLot 8 = .ok (.lrem, 1) := by decide +kernel
theorem dX4_nextLot_9 : decode cX4_nextLot 9 = .ok (.lreturn, 1) := by decide +kernel
theorem dX4_isStillAfterRound_0 : decode cX4_isStillAfterRound 0 = .ok (.aload_n 0, 1) := by decide +kernel
theorem dX4_isStillAfterRound_1 : decode cX4_isStillAfterRound 1 = .ok (.getfield 10, 3) := by decide +kernel
theorem dX4_isStillAfterRound_4 : decode cX4_isStillAfterRound 4 = .ok (.getfield 43, 3) := by decide +kernel
theorem dX4_isStillAfterRound_7 : decode cX4_isStillAfterRound 7 = .ok (.istore_n 1, 1) := by decide +kernel
theorem dX4_isStillAfterRound_8 : decode cX4_isStillAfterRound 8 = .ok (.aload_n 0, 1) := by decide +kernel
theorem dX4_isStillAfterRound_9 : decode cX4_isStillAfterRound 9 = .ok (.getfield 10, 3) := by decide +kernel
theorem dX4_isStillAfterRound_12 : decode cX4_isStillAfterRound 12 = .ok (.getfield 123, 3) := by decide +kernel
theorem dX4_isStillAfterRound_15 : decode cX4_isStillAfterRound 15 = .ok (.istore_n 2, 1) := by decide +kernel
theorem dX4_isStillAfterRound_16 : decode cX4_isStillAfterRound 16 = .ok (.iconst 0, 1) := by decide +kernel
theorem dX4_isStillAfterRound_17 : decode cX4_isStillAfterRound 17 = .ok (.istore_n 3, 1) := by decide +kernel
theorem dX4_isStillAfterRound_18 : decode cX4_isStillAfterRound 18 = .ok (.iload_n 3, 1) := by decide +kernel
theorem dX4_isStillAfterRound_19 : decode cX4_isStillAfterRound 19 = .ok (.aload_n 0, 1) := by decide +kernel
theorem dX4_isStillAfterRound_20 : decode cX4_isStillAfterRound 20 = .ok (.getfield 10, 3) := by decide +kernel
theorem dX4_isStillAfterRound_23 : decode cX4_isStillAfterRound 23 = .ok (.getfield 93, 3) := by decide +kernel
theorem dX4_isStillAfterRound_26 : decode cX4_isStillAfterRound 26 = .ok (.if_icmp .ge 25, 3) := by decide +kernel
theorem dX4_isStillAfterRound_29 : decode cX4_isStillAfterRound 29 = .ok (.aload_n 0, 1) := by decide +kernel
theorem dX4_isStillAfterRound_30 : decode cX4_isStillAfterRound 30 = .ok (.getfield 10, 3) := by decide +kernel
theorem dX4_isStillAfterRound_33 : decode cX4_isStillAfterRound 33 = .ok (.iload_n 3, 1) := by decide +kernel
theorem dX4_isStillAfterRound_34 : decode cX4_isStillAfterRound 34 = .ok (.invokevirtual 169, 3) := by decide +kernel
theorem dX4_isStillAfterRound_37 : decode cX4_isStillAfterRound 37 = .ok (.ifCond .eq 8, 3) := by decide +kernel
theorem dX4_isStillAfterRound_40 : decode cX4_isStillAfterRound 40 = .ok (.aload_n 0, 1) := by decide +kernel
theorem dX4_isStillAfterRound_41 : decode cX4_isStillAfterRound 41 = .ok (.iload_n 3, 1) := by decide +kernel
theorem dX4_isStillAfterRound_42 : decode cX4_isStillAfterRound 42 = .ok (.invokevirtual 241, 3) := by decide +kernel
theorem dX4_isStillAfterRound_45 : decode cX4_isStillAfterRound 45 = .ok (.iinc 3 1, 3) := by decide +kernel
theorem dX4_isStillAfterRound_48 : decode cX4_isStillAfterRound 48 = .ok (.goto (-30), 3) := by decide +kernel
theorem dX4_isStillAfterRound_51 : decode cX4_isStillAfterRound 51 = .ok (.aload_n 0, 1) := by decide +kernel
theorem dX4_isStillAfterRound_52 : decode cX4_isStillAfterRound 52 = .ok (.getfield 10, 3) := by decide +kernel
theorem dX4_isStillAfterRound_55 : decode cX4_isStillAfterRound 55 = .ok (.getfield 89, 3) := by decide +kernel
theorem dX4_isStillAfterRound_58 : decode cX4_isStillAfterRound 58 = .ok (.iconst 1, 1) := by decide +kernel
theorem dX4_isStillAfterRound_59 : decode cX4_isStillAfterRound 59 = .ok (.if_icmp .eq 30, 3) := by decide +kernel
theorem dX4_isStillAfterRound_62 : decode cX4_isStillAfterRound 62 = .ok (.iconst 0, 1) := by decide +kernel
theorem dX4_isStillAfterRound_63 : decode cX4_isStillAfterRound 63 = .ok (.istore_n 3, 1) := by decide +kernel
theorem dX4_isStillAfterRound_64 : decode cX4_isStillAfterRound 64 = .ok (.iload_n 3, 1) := by decide +kernel
theorem dX4_isStillAfterRound_65 : decode cX4_isStillAfterRound 65 = .ok (.aload_n 0, 1) := by decide +kernel
theorem dX4_isStillAfterRound_66 : decode cX4_isStillAfterRound 66 = .ok (.getfield 10, 3) := by decide +kernel
theorem dX4_isStillAfterRound_69 : decode cX4_isStillAfterRound 69 = .ok (.getfield 93, 3) := by decide +kernel
theorem dX4_isStillAfterRound_72 : decode cX4_isStillAfterRound 72 = .ok (.if_icmp .ge 17, 3) := by decide +kernel
theorem dX4_isStillAfterRound_75 : decode cX4_isStillAfterRound 75 = .ok (.aload_n 0, 1) := by decide +kernel
theorem dX4_isStillAfterRound_76 : decode cX4_isStillAfterRound 76 = .ok (.getfield 10, 3) := by decide +kernel
theorem dX4_isStillAfterRound_79 : decode cX4_isStillAfterRound 79 = .ok (.iload_n 3, 1) := by decide +kernel
theorem dX4_isStillAfterRound_80 : decode cX4_isStillAfterRound 80 = .ok (.invokevirtual 244, 3) := by decide +kernel
theorem dX4_isStillAfterRound_83 : decode cX4_isStillAfterRound 83 = .ok (.iinc 3 1, 3) := by decide +kernel
theorem dX4_isStillAfterRound_86 : decode cX4_isStillAfterRound 86 = .ok (.goto (-22), 3) := by decide +kernel
theorem dX4_isStillAfterRound_89 : decode cX4_isStillAfterRound 89 = .ok (.aload_n 0, 1) := by decide +kernel
theorem dX4_isStillAfterRound_90 : decode cX4_isStillAfterRound 90 = .ok (.getfield 10, 3) := by decide +kernel
theorem dX4_isStillAfterRound_93 : decode cX4_isStillAfterRound 93 = .ok (.dup, 1) := by decide +kernel
theorem dX4_isStillAfterRound_94 : decode cX4_isStillAfterRound 94 = .ok (.getfield 126, 3) := by decide +kernel
theorem dX4_isStillAfterRound_97 : decode cX4_isStillAfterRound 97 = .ok (.iconst 1, 1) := by decide +kernel
theorem dX4_isStillAfterRound_98 : decode cX4_isStillAfterRound 98 = .ok (.iadd, 1) := by decide +kernel
theorem dX4_isStillAfterRound_99 : decode cX4_isStillAfterRound 99 = .ok (.putfield 126, 3) := by decide +kernel
theorem dX4_isStillAfterRound_102 : decode cX4_isStillAfterRound 102 = .ok (.aload_n 0, 1) := by decide +kernel
theorem dX4_isStillAfterRound_103 : decode cX4_isStillAfterRound 103 = .ok (.getfield 10, 3) := by decide +kernel
theorem dX4_isStillAfterRound_106 : decode cX4_isStillAfterRound 106 = .ok (.getfield 43, 3) := by decide +kernel
theorem dX4_isStillAfterRound_109 : decode cX4_isStillAfterRound 109 = .ok (.iload_n 1, 1) := by decide +kernel
theorem dX4_isStillAfterRound_110 : decode cX4_isStillAfterRound 110 = .ok (.if_icmp .ne 28, 3) := by decide +kernel
theorem dX4_isStillAfterRound_113 : decode cX4_isStillAfterRound 113 = .ok (.aload_n 0, 1) := by decide +kernel
theorem dX4_isStillAfterRound_114 : decode cX4_isStillAfterRound 114 = .ok (.getfield 10, 3) := by decide +kernel
theorem dX4_isStillAfterRound_117 : decode cX4_isStillAfterRound 117 = .ok (.getfield 123, 3) := by decide +kernel
theorem dX4_isStillAfterRound_120 : decode cX4_isStillAfterRound 120 = .ok (.iload_n 2, 1) := by decide +kernel
theorem dX4_isStillAfterRound_121 : decode cX4_isStillAfterRound 121 = .ok (.if_icmp .ne 17, 3) := by decide +kernel
theorem dX4_isStillAfterRound_124 : decode cX4_isStillAfterRound 124 = .ok (.aload_n 0, 1) := by decide +kernel
theorem dX4_isStillAfterRound_125 : decode cX4_isStillAfterRound 125 = .ok (.getfield 10, 3) := by decide +kernel
theorem dX4_isStillAfterRound_128 : decode cX4_isStillAfterRound 128 = .ok (.invokevirtual 111, 3) := by decide +kernel
theorem dX4_isStillAfterRound_131 : decode cX4_isStillAfterRound 131 = .ok (.ifCond .le 7, 3) := by decide +kernel
theorem dX4_isStillAfterRound_134 : decode cX4_isStillAfterRound 134 = .ok (.iconst 1, 1) := by decide +kernel
theorem dX4_isStillAfterRound_135 : decode cX4_isStillAfterRound 135 = .ok (.goto 4, 3) := by decide +kernel
theorem dX4_isStillAfterRound_138 : decode cX4_isStillAfterRound 138 = .ok (.iconst 0, 1) := by decide +kernel
theorem dX4_isStillAfterRound_139 : decode cX4_isStillAfterRound 139 = .ok (.ireturn, 1) := by decide +kernel
theorem dX4_letEarliestGo_0 : decode cX4_letEarliestGo 0 = .ok (.aload_n 0, 1) := by decide +kernel
theorem dX4_letEarliestGo_1 : decode cX4_letEarliestGo 1 = .ok (.getfield 10, 3) := by decide +kernel
theorem dX4_letEarliestGo_4 : decode cX4_letEarliestGo 4 = .ok (.invokevirtual 132, 3) := by decide +kernel
theorem dX4_letEarliestGo_7 : decode cX4_letEarliestGo 7 = .ok (.istore_n 1, 1) := by decide +kernel
theorem dX4_letEarliestGo_8 : decode cX4_letEarliestGo 8 = .ok (.iconst 0, 1) := by decide +kernel
theorem dX4_letEarliestGo_9 : decode cX4_letEarliestGo 9 = .ok (.istore_n 2, 1) := by decide +kernel
theorem dX4_letEarliestGo_10 : decode cX4_letEarliestGo 10 = .ok (.iload_n 2, 1) := by decide +kernel
theorem dX4_letEarliestGo_11 : decode cX4_letEarliestGo 11 = .ok (.aload_n 0, 1) := by decide +kernel
theorem dX4_letEarliestGo_12 : decode cX4_letEarliestGo 12 = .ok (.getfield 10, 3) := by decide +kernel
theorem dX4_letEarliestGo_15 : decode cX4_letEarliestGo 15 = .ok (.getfield 93, 3) := by decide +kernel
theorem dX4_letEarliestGo_18 : decode cX4_letEarliestGo 18 = .ok (.if_icmp .ge 44, 3) := by decide +kernel
theorem dX4_letEarliestGo_21 : decode cX4_letEarliestGo 21 = .ok (.iconst 0, 1) := by decide +kernel
theorem dX4_letEarliestGo_22 : decode cX4_letEarliestGo 22 = .ok (.istore_n 3, 1) := by decide +kernel
theorem dX4_letEarliestGo_23 : decode cX4_letEarliestGo 23 = .ok (.iload_n 3, 1) := by decide +kernel
theorem dX4_letEarliestGo_24 : decode cX4_letEarliestGo 24 = .ok (.bipush 30, 2) := by decide +kernel
theorem dX4_letEarliestGo_26 : decode cX4_letEarliestGo 26 = .ok (.if_icmp .ge 30, 3) := by decide +kernel
theorem dX4_letEarliestGo_29 : decode cX4_letEarliestGo 29 = .ok (.aload_n 0, 1) := by decide +kernel
theorem dX4_letEarliestGo_30 : decode cX4_letEarliestGo 30 = .ok (.getfield 10, 3) := by decide +kernel
theorem dX4_letEarliestGo_33 : decode cX4_letEarliestGo 33 = .ok (.getfield 156, 3) := by decide +kernel
theorem dX4_letEarliestGo_36 : decode cX4_letEarliestGo 36 = .ok (.iload_n 2, 1) := by decide +kernel
theorem dX4_letEarliestGo_37 : decode cX4_letEarliestGo 37 = .ok (.aaload, 1) := by decide +kernel
theorem dX4_letEarliestGo_38 : decode cX4_letEarliestGo 38 = .ok (.invokevirtual 163, 3) := by decide +kernel
theorem dX4_letEarliestGo_41 : decode cX4_letEarliestGo 41 = .ok (.iload_n 1, 1) := by decide +kernel
theorem dX4_letEarliestGo_42 : decode cX4_letEarliestGo 42 = .ok (.if_icmp .ne 14, 3) := by decide +kernel
theorem dX4_letEarliestGo_45 : decode cX4_letEarliestGo 45 = .ok (.aload_n 0, 1) := by decide +kernel
theorem dX4_letEarliestGo_46 : decode cX4_letEarliestGo 46 = .ok (.iload_n 2, 1) := by decide +kernel
theorem dX4_letEarliestGo_47 : decode cX4_letEarliestGo 47 = .ok (.invokevirtual 241, 3) := by decide +kernel
theorem dX4_letEarliestGo_50 : decode cX4_letEarliestGo 50 = .ok (.iinc 3 1, 3) := by decide +kernel
theorem dX4_letEarliestGo_53 : decode cX4_letEarliestGo 53 = .ok (.goto (-30), 3) := by decide +kernel
theorem dX4_letEarliestGo_56 : decode cX4_letEarliestGo 56 = .ok (.iinc 2 1, 3) := by decide +kernel
theorem dX4_letEarliestGo_59 : decode cX4_letEarliestGo 59 = .ok (.goto (-49), 3) := by decide +kernel
theorem dX4_letEarliestGo_62 : decode cX4_letEarliestGo 62 = .ok (.aload_n 0, 1) := by decide +kernel
theorem dX4_letEarliestGo_63 : decode cX4_letEarliestGo 63 = .ok (.getfield 10, 3) := by decide +kernel
theorem dX4_letEarliestGo_66 : decode cX4_letEarliestGo 66 = .ok (.getfield 59, 3) := by decide +kernel
theorem dX4_letEarliestGo_69 : decode cX4_letEarliestGo 69 = .ok (.iload_n 1, 1) := by decide +kernel
theorem dX4_letEarliestGo_70 : decode cX4_letEarliestGo 70 = .ok (.iconst 1, 1) := by decide +kernel
theorem dX4_letEarliestGo_71 : decode cX4_letEarliestGo 71 = .ok (.iadd, 1) := by decide +kernel
theorem dX4_letEarliestGo_72 : decode cX4_letEarliestGo 72 = .ok (.invokevirtual 247, 3) := by decide +kernel
theorem dX4_letEarliestGo_75 : decode cX4_letEarliestGo 75 = .ok (.aload_n 0, 1) := by decide +kernel
theorem dX4_letEarliestGo_76 : decode cX4_letEarliestGo 76 = .ok (.getfield 10, 3) := by decide +kernel
theorem dX4_letEarliestGo_79 : decode cX4_letEarliestGo 79 = .ok (.dup, 1) := by decide +kernel
theorem dX4_letEarliestGo_80 : decode cX4_letEarliestGo 80 = .ok (.getfield 129, 3) := by decide +kernel
theorem dX4_letEarliestGo_83 : decode cX4_letEarliestGo 83 = .ok (.iconst 1, 1) := by decide +kernel
theorem dX4_letEarliestGo_84 : decode cX4_letEarliestGo 84 = .ok (.iadd, 1) := by decide +kernel
theorem dX4_letEarliestGo_85 : decode cX4_letEarliestGo 85 = .ok (.putfield 129, 3) := by decide +kernel
theorem dX4_letEarliestGo_88 : decode cX4_letEarliestGo 88 = .ok (.iload_n 1, 1) := by decide +kernel
theorem dX4_letEarliestGo_89 : decode cX4_letEarliestGo 89 = .ok (.ireturn, 1) := by decide +kernel
theorem dX4_workAndWriteDown_0 : decode cX4_workAndWriteDown 0 = .ok (.aload_n 0, 1) := by decide +kernel
theorem dX4_workAndWriteDown_1 : decode cX4_workAndWriteDown 1 = .ok (.getfield 10, 3) := by decide +kernel
theorem dX4_workAndWriteDown_4 : decode cX4_workAndWriteDown 4 = .ok (.getfield 156, 3) := by decide +kernel
theorem dX4_workAndWriteDown_7 : decode cX4_workAndWriteDown 7 = .ok (.iload_n 1, 1) := by decide +kernel
theorem dX4_workAndWriteDown_8 : decode cX4_workAndWriteDown 8 = .ok (.aaload, 1) := by decide +kernel
theorem dX4_workAndWriteDown_9 : decode cX4_workAndWriteDown 9 = .ok (.astore_n 2, 1) := by decide +kernel
theorem dX4_workAndWriteDown_10 : decode cX4_workAndWriteDown 10 = .ok (.aload_n 0, 1) := by decide +kernel
theorem dX4_workAndWriteDown_11 : decode cX4_workAndWriteDown 11 = .ok (.getfield 30, 3) := by decide +kernel
theorem dX4_workAndWriteDown_14 : decode cX4_workAndWriteDown 14 = .ok (.iload_n 1, 1) := by decide +kernel
theorem dX4_workAndWriteDown_15 : decode cX4_workAndWriteDown 15 = .ok (.aload_n 2, 1) := by decide +kernel
theorem dX4_workAndWriteDown_16 : decode cX4_workAndWriteDown 16 = .ok (.invokevirtual 163, 3) := by decide +kernel
theorem dX4_workAndWriteDown_19 : decode cX4_workAndWriteDown 19 = .ok (.aload_n 2, 1) := by decide +kernel
theorem dX4_workAndWriteDown_20 : decode cX4_workAndWriteDown 20 = .ok (.invokevirtual 166, 3) := by decide +kernel
theorem dX4_workAndWriteDown_23 : decode cX4_workAndWriteDown 23 = .ok (.aload_n 0, 1) := by decide +kernel
theorem dX4_workAndWriteDown_24 : decode cX4_workAndWriteDown 24 = .ok (.getfield 10, 3) := by decide +kernel
theorem dX4_workAndWriteDown_27 : decode cX4_workAndWriteDown 27 = .ok (.invokevirtual 69, 3) := by decide +kernel
theorem dX4_workAndWriteDown_30 : decode cX4_workAndWriteDown 30 = .ok (.invokevirtual 250, 3) := by decide +kernel
theorem dX4_workAndWriteDown_33 : decode cX4_workAndWriteDown 33 = .ok (.aload_n 0, 1) := by decide +kernel
theorem dX4_workAndWriteDown_34 : decode cX4_workAndWriteDown 34 = .ok (.getfield 10, 3) := by decide +kernel
theorem dX4_workAndWriteDown_37 : decode cX4_workAndWriteDown 37 = .ok (.iload_n 1, 1) := by decide +kernel
theorem dX4_workAndWriteDown_38 : decode cX4_workAndWriteDown 38 = .ok (.invokevirtual 225, 3) := by decide +kernel
theorem dX4_workAndWriteDown_41 : decode cX4_workAndWriteDown 41 = .ok (.return_, 1) := by decide +kernel
theorem dX4_leastPromisesRound_0 : decode cX4_leastPromisesRound 0 = .ok (.iconst 0, 1) := by decide +kernel
theorem dX4_leastPromisesRound_1 : decode cX4_leastPromisesRound 1 = .ok (.istore_n 2, 1) := by decide +kernel
theorem dX4_leastPromisesRound_2 : decode cX4_leastPromisesRound 2 = .ok (.iload_n 2, 1) := by decide +kernel
theorem dX4_leastPromisesRound_3 : decode cX4_leastPromisesRound 3 = .ok (.bipush 6, 2) := by decide +kernel
theorem dX4_leastPromisesRound_5 : decode cX4_leastPromisesRound 5 = .ok (.if_icmp .ge 17, 3) := by decide +kernel
theorem dX4_leastPromisesRound_8 : decode cX4_leastPromisesRound 8 = .ok (.aload_n 0, 1) := by decide +kernel
theorem dX4_leastPromisesRound_9 : decode cX4_leastPromisesRound 9 = .ok (.getfield 34, 3) := by decide +kernel
theorem dX4_leastPromisesRound_12 : decode cX4_leastPromisesRound 12 = .ok (.iload_n 2, 1) := by decide +kernel
theorem dX4_leastPromisesRound_13 : decode cX4_leastPromisesRound 13 = .ok (.ldc 217, 2) := by decide +kernel
theorem dX4_leastPromisesRound_15 : decode cX4_leastPromisesRound 15 = .ok (.iastore, 1) := by decide +kernel
theorem dX4_leastPromisesRound_16 : decode cX4_leastPromisesRound 16 = .ok (.iinc 2 1, 3) := by decide +kernel
theorem dX4_leastPromisesRound_19 : decode cX4_leastPromisesRound 19 = .ok (.goto (-17), 3) := by decide +kernel
theorem dX4_leastPromisesRound_22 : decode cX4_leastPromisesRound 22 = .ok (.aload_n 0, 1) := by decide +kernel
theorem dX4_leastPromisesRound_23 : decode cX4_leastPromisesRound 23 = .ok (.getfield 10, 3) := by decide +kernel
theorem dX4_leastPromisesRound_26 : decode cX4_leastPromisesRound 26 = .ok (.getfield 59, 3) := by decide +kernel
theorem dX4_leastPromisesRound_29 : decode cX4_leastPromisesRound 29 = .ok (.astore_n 2, 1) := by decide +kernel
theorem dX4_leastPromisesRound_30 : decode cX4_leastPromisesRound 30 = .ok (.iconst 0, 1) := by decide +kernel
theorem dX4_leastPromisesRound_31 : decode cX4_leastPromisesRound 31 = .ok (.istore_n 3, 1) := by decide +kernel
theorem dX4_leastPromisesRound_32 : decode cX4_leastPromisesRound 32 = .ok (.iload_n 3, 1) := by decide +kernel
theorem dX4_leastPromisesRound_33 : decode cX4_leastPromisesRound 33 = .ok (.aload_n 0, 1) := by decide +kernel
theorem dX4_leastPromisesRound_34 : decode cX4_leastPromisesRound 34 = .ok (.getfield 10, 3) := by decide +kernel
theorem dX4_leastPromisesRound_37 : decode cX4_leastPromisesRound 37 = .ok (.getfield 93, 3) := by decide +kernel
theorem dX4_leastPromisesRound_40 : decode cX4_leastPromisesRound 40 = .ok (.if_icmp .ge 91, 3) := by decide +kernel
theorem dX4_leastPromisesRound_43 : decode cX4_leastPromisesRound 43 = .ok (.iconst 0, 1) := by decide +kernel
theorem dX4_leastPromisesRound_44 : decode cX4_leastPromisesRound 44 = .ok (.istore 4, 2) := by decide +kernel
theorem dX4_leastPromisesRound_46 : decode cX4_leastPromisesRound 46 = .ok (.iload 4, 2) := by decide +kernel
theorem dX4_leastPromisesRound_48 : decode cX4_leastPromisesRound 48 = .ok (.aload_n 2, 1) := by decide +kernel
theorem dX4_leastPromisesRound_49 : decode cX4_leastPromisesRound 49 = .ok (.getfield 74, 3) := by decide +kernel
theorem dX4_leastPromisesRound_52 : decode cX4_leastPromisesRound 52 = .ok (.if_icmp .ge 73, 3) := by decide +kernel
theorem dX4_leastPromisesRound_55 : decode cX4_leastPromisesRound 55 = .ok (.aload_n 2, 1) := by decide +kernel
theorem dX4_leastPromisesRound_56 : decode cX4_leastPromisesRound 56 = .ok (.getfield 181, 3) := by decide +kernel
theorem dX4_leastPromisesRound_59 : decode cX4_leastPromisesRound 59 = .ok (.iload 4, 2) := by decide +kernel
theorem dX4_leastPromisesRound_61 : decode cX4_leastPromisesRound 61 = .ok (.iaload, 1) := by decide +kernel
theorem dX4_leastPromisesRound_62 : decode cX4_leastPromisesRound 62 = .ok (.istore 5, 2) := by decide +kernel
theorem dX4_leastPromisesRound_64 : decode cX4_leastPromisesRound 64 = .ok (.aload_n 2, 1) := by decide +kernel
theorem dX4_leastPromisesRound_65 : decode cX4_leastPromisesRound 65 = .ok (.getfield 184, 3) := by decide +kernel
theorem dX4_leastPromisesRound_68 : decode cX4_leastPromisesRound 68 = .ok (.iload 4, 2) := by decide +kernel
theorem dX4_leastPromisesRound_70 : decode cX4_leastPromisesRound 70 = .ok (.iaload, 1) := by decide +kernel
theorem dX4_leastPromisesRound_71 : decode cX4_leastPromisesRound 71 = .ok (.istore 6, 2) := by decide +kernel
theorem dX4_leastPromisesRound_73 : decode cX4_leastPromisesRound 73 = .ok (.iload 5, 2) := by decide +kernel
theorem dX4_leastPromisesRound_75 : decode cX4_leastPromisesRound 75 = .ok (.iload_n 1, 1) := by decide +kernel
theorem dX4_leastPromisesRound_76 : decode cX4_leastPromisesRound 76 = .ok (.if_icmp .ne 7, 3) := by decide +kernel
theorem dX4_leastPromisesRound_79 : decode cX4_leastPromisesRound 79 = .ok (.iconst 0, 1) := by decide +kernel
theorem dX4_leastPromisesRound_80 : decode cX4_leastPromisesRound 80 = .ok (.goto 10, 3) := by decide +kernel
theorem dX4_leastPromisesRound_83 : decode cX4_leastPromisesRound 83 = .ok (.aload_n 0, 1) := by decide +kernel
theorem dX4_leastPromisesRound_84 : decode cX4_leastPromisesRound 84 = .ok (.getfield 34, 3) := by decide +kernel
theorem dX4_leastPromisesRound_87 : decode cX4_leastPromisesRound 87 = .ok (.iload 5, 2) := by decide +kernel
theorem dX4_leastPromisesRound_89 : decode cX4_leastPromisesRound 89 = .ok (.iaload, 1) := by decide +kernel
theorem dX4_leastPromisesRound_90 : decode cX4_leastPromisesRound 90 = .ok (.istore 7, 2) := by decide +kernel
theorem dX4_leastPromisesRound_92 : decode cX4_leastPromisesRound 92 = .ok (.aload_n 0, 1) := by decide +kernel
theorem dX4_leastPromisesRound_93 : decode cX4_leastPromisesRound 93 = .ok (.getfield 34, 3) := by decide +kernel
theorem dX4_leastPromisesRound_96 : decode cX4_leastPromisesRound 96 = .ok (.iload 6, 2) := by decide +kernel
theorem dX4_leastPromisesRound_98 : decode cX4_leastPromisesRound 98 = .ok (.aload_n 0, 1) := by decide +kernel
theorem dX4_leastPromisesRound_99 : decode cX4_leastPromisesRound 99 = .ok (.getfield 34, 3) := by decide +kernel
theorem dX4_leastPromisesRound_102 : decode cX4_leastPromisesRound 102 = .ok (.iload 6, 2) := by decide +kernel
theorem dX4_leastPromisesRound_104 : decode cX4_leastPromisesRound 104 = .ok (.iaload, 1) := by decide +kernel
theorem dX4_leastPromisesRound_105 : decode cX4_leastPromisesRound 105 = .ok (.iload 7, 2) := by decide +kernel
theorem dX4_leastPromisesRound_107 : decode cX4_leastPromisesRound 107 = .ok (.aload_n 2, 1) := by decide +kernel
theorem dX4_leastPromisesRound_108 : decode cX4_leastPromisesRound 108 = .ok (.getfield 187, 3) := by decide +kernel
theorem dX4_leastPromisesRound_111 : decode cX4_leastPromisesRound 111 = .ok (.iload 4, 2) := by decide +kernel
theorem dX4_leastPromisesRound_113 : decode cX4_leastPromisesRound 113 = .ok (.iaload, 1) := by decide +kernel
theorem dX4_leastPromisesRound_114 : decode cX4_leastPromisesRound 114 = .ok (.iadd, 1) := by decide +kernel
theorem dX4_leastPromisesRound_115 : decode cX4_leastPromisesRound 115 = .ok (.invokestatic 253, 3) := by decide +kernel
theorem dX4_leastPromisesRound_118 : decode cX4_leastPromisesRound 118 = .ok (.iastore, 1) := by decide +kernel
theorem dX4_leastPromisesRound_119 : decode cX4_leastPromisesRound 119 = .ok (.iinc 4 1, 3) := by decide +kernel
theorem dX4_leastPromisesRound_122 : decode cX4_leastPromisesRound 122 = .ok (.goto (-76), 3) := by decide +kernel
theorem dX4_leastPromisesRound_125 : decode cX4_leastPromisesRound 125 = .ok (.iinc 3 1, 3) := by decide +kernel
theorem dX4_leastPromisesRound_128 : decode cX4_leastPromisesRound 128 = .ok (.goto (-96), 3) := by decide +kernel
theorem dX4_leastPromisesRound_131 : decode cX4_leastPromisesRound 131 = .ok (.aload_n 0, 1) := by decide +kernel
theorem dX4_leastPromisesRound_132 : decode cX4_leastPromisesRound 132 = .ok (.getfield 34, 3) := by decide +kernel
theorem dX4_leastPromisesRound_135 : decode cX4_leastPromisesRound 135 = .ok (.iload_n 1, 1) := by decide +kernel
theorem dX4_leastPromisesRound_136 : decode cX4_leastPromisesRound 136 = .ok (.iaload, 1) := by decide +kernel
theorem dX4_leastPromisesRound_137 : decode cX4_leastPromisesRound 137 = .ok (.ireturn, 1) := by decide +kernel
end
section
theorem dX5_init_0 : decode cX5_init 0 = .ok (.aload_n 0, 1) := by decide +kernel
theorem dX5_init_1 : decode cX5_init 1 = .ok (.invokespecial 1, 3) := by decide +kernel
theorem dX5_init_4 : decode cX5_init 4 = .ok (.aload_n 0, 1) := by decide +kernel
theorem dX5_init_5 : decode cX5_init 5 = .ok (.sipush 1048, 3) := by decide +kernel
theorem dX5_init_8 : decode cX5_init 8 = .ok (.newarray .int, 2) := by decide +kernel
theorem dX5_init_10 : decode cX5_init 10 = .ok (.putfield 7, 3) := by decide +kernel
theorem dX5_init_13 : decode cX5_init 13 = .ok (.aload_n 0, 1) := by decide +kernel
theorem dX5_init_14 : decode cX5_init 14 = .ok (.iconst 2, 1) := by decide +kernel
theorem dX5_init_15 : decode cX5_init 15 = .ok (.newarray .boolean, 2) := by decide +kernel
theorem dX5_init_17 : decode cX5_init 17 = .ok (.putfield 13, 3) := by decide +kernel
theorem dX5_init_20 : decode cX5_init 20 = .ok (.aload_n 0, 1) := by decide +kernel
theorem dX5_init_21 : decode cX5_init 21 = .ok (.sipush 800, 3) := by decide +kernel
theorem dX5_init_24 : decode cX5_init 24 = .ok (.newarray .int, 2) := by decide +kernel
theorem dX5_init_26 : decode cX5_init 26 = .ok (.putfield 17, 3) := by decide +kernel
theorem dX5_init_29 : decode cX5_init 29 = .ok (.aload_n 0, 1) := by decide +kernel
theorem dX5_init_30 : decode cX5_init 30 = .ok (.bipush 6, 2) := by decide +kernel
theorem dX5_init_32 : decode cX5_init 32 = .ok (.newarray .int, 2) := by decide +kernel
theorem dX5_init_34 : decode cX5_init 34 = .ok (.putfield 20, 3) := by decide +kernel
theorem dX5_init_37 : decode cX5_init 37 = .ok (.return_, 1) := by decide +kernel
theorem dX5_in_0 : decode cX5_in 0 = .ok (.lload_n 0, 1) := by decide +kernel
theorem dX5_in_1 : decode cX5_in 1 = .ok (.lload_n 2, 1) := by decide +kernel
theorem dX5_in_2 : decode cX5_in 2 = .ok (.lcmp, 1) := by decide +kernel
theorem dX5_in_3 : decode cX5_in 3 = .ok (.ifCond .lt 14, 3) := by decide +kernel
theorem dX5_in_6 : decode cX5_in 6 = .ok (.lload_n 0, 1) := by decide +kernel
theorem dX5_in_7 : decode cX5_in 7 = .ok (.lload 4, 2) := by decide +kernel
theorem dX5_in_9 : decode cX5_in 9 = .ok (.lcmp, 1) := by decide +kernel
theorem dX5_in_10 : decode cX5_in 10 = .ok (.ifCond .gt 7, 3) := by decide +kernel
theorem dX5_in_13 : decode cX5_in 13 = .ok (.iconst 1, 1) := by decide +kernel
theorem dX5_in_14 : decode cX5_in 14 = .ok (.goto 4, 3) := by decide +kernel
theorem dX5_in_17 : decode cX5_in 17 = .ok (.iconst 0, 1) := by decide +kernel
theorem dX5_in_18 : decode cX5_in 18 = .ok (.ireturn, 1) := by decide +kernel
theorem dX5_has_0 : decode cX5_has 0 = .ok (.iload_n 0, 1) := by decide +kernel
theorem dX5_has_1 : decode cX5_has 1 = .ok (.iload_n 1, 1) := by decide +kernel
theorem dX5_has_2 : decode cX5_has 2 = .ok (.ishr, 1) := by decide +kernel
theorem dX5_has_3 : decode cX5_has 3 = .ok (.iconst 1, 1) := by decide +kernel
theorem dX5_has_4 : decode cX5_has 4 = .ok (.iand, 1) := by decide +kernel
theorem dX5_has_5 : decode cX5_has 5 = .ok (.iconst 1, 1) := by decide +kernel
theorem dX5_has_6 : decode cX5_has 6 = .ok (.if_icmp .ne 7, 3) := by decide +kernel
theorem dX5_has_9 : decode cX5_has 9 = .ok (.iconst 1, 1) := by decide +kernel
theorem dX5_has_10 : decode cX5_has 10 = .ok (.goto 4, 3) := by decide +kernel
theorem dX5_has_13 : decode cX5_has 13 = .ok (.iconst 0, 1) := by decide +kernel
theorem dX5_has_14 : decode cX5_has 14 = .ok (.ireturn, 1) := by decide +kernel
theorem dX5_copy_0 : decode cX5_copy 0 = .ok (.iconst 0, 1) := by decide +kernel
theorem dX5_copy_1 : decode cX5_copy 1 = .ok (.istore_n 3, 1) := by decide +kernel
theorem dX5_copy_2 : decode cX5_copy 2 = .ok (.iload_n 3, 1) := by decide +kernel
theorem dX5_copy_3 : decode cX5_copy 3 = .ok (.sipush 262, 3) := by decide +kernel
theorem dX5_copy_6 : decode cX5_copy 6 = .ok (.if_icmp .ge 25, 3) := by decide +kernel
theorem dX5_copy_9 : decode cX5_copy 9 = .ok (.aload_n 0, 1) := by decide +kernel
theorem dX5_copy_10 : decode cX5_copy 10 = .ok (.getfield 7, 3) := by decide +kernel
theorem dX5_copy_13 : decode cX5_copy 13 = .ok (.iload_n 2, 1) := by decide +kernel
theorem dX5_copy_14 : decode cX5_copy 14 = .ok (.iload_n 3, 1) := by decide +kernel
theorem dX5_copy_15 : decode cX5_copy 15 = .ok (.iadd, 1) := by decide +kernel
theorem dX5_copy_16 : decode cX5_copy 16 = .ok (.aload_n 0, 1) := by decide +kernel
theorem dX5_copy_17 : decode cX5_copy 17 = .ok (.getfield 7, 3) := by decide +kernel
theorem dX5_copy_20 : decode cX5_copy 20 = .ok (.iload_n 1, 1) := by decide +kernel
theorem dX5_copy_21 : decode cX5_copy 21 = .ok (.iload_n 3, 1) := by decide +kernel
theorem dX5_copy_22 : decode cX5_copy 22 = .ok (.iadd, 1) := by decide +kernel
theorem dX5_copy_23 : decode cX5_copy 23 = .ok (.iaload, 1) := by decide +kernel
theorem dX5_copy_24 : decode cX5_copy 24 = .ok (.iastore, 1) := by decide +kernel
theorem dX5_copy_25 : decode cX5_copy 25 = .ok (.iinc 3 1, 3) := by decide +kernel
theorem dX5_copy_28 : decode cX5_copy 28 = .ok (.goto (-26), 3) := by decide +kernel
theorem dX5_copy_31 : decode cX5_copy 31 = .ok (.return_, 1) := by decide +kernel
theorem dX5_isPart_0 : decode cX5_isPart 0 = .ok (.iload_n 1, 1) := by decide +kernel
theorem dX5_isPart_1 : decode cX5_isPart 1 = .ok (.i2l, 1) := by decide +kernel
theorem dX5_isPart_2 : decode cX5_isPart 2 = .ok (.lconst 0, 1) := by decide +kernel
theorem dX5_isPart_3 : decode cX5_isPart 3 = .ok (.aload_n 0, 1) := by decide +kernel
theorem dX5_isPart_4 : decode cX5_isPart 4 = .ok (.getfield 7, 3) := by decide +kernel
theorem dX5_isPart_7 : decode cX5_isPart 7 = .ok (.iconst 0, 1) := by decide +kernel
theorem dX5_isPart_8 : decode cX5_isPart 8 = .ok (.iaload, 1) := by decide +kernel
theorem dX5_isPart_9 : decode cX5_isPart 9 = .ok (.iconst 1, 1) := by decide +kernel
theorem dX5_isPart_10 : decode cX5_isPart 10 = .ok (.isub, 1) := by decide +kernel
theorem dX5_isPart_11 : decode cX5_isPart 11 = .ok (.i2l, 1) := by decide +kernel
theorem dX5_isPart_12 : decode cX5_isPart 12 = .ok (.invokestatic 23, 3) := by decide +kernel
theorem dX5_isPart_15 : decode cX5_isPart 15 = .ok (.ireturn, 1) := by decide +kernel
theorem dX5_isChannel_0 : decode cX5_isChannel 0 = .ok (.iload_n 1, 1) := by decide +kernel
theorem dX5_isChannel_1 : decode cX5_isChannel 1 = .ok (.i2l, 1) := by decide +kernel
theorem dX5_isChannel_2 : decode cX5_isChannel 2 = .ok (.lconst 0, 1) := by decide +kernel
theorem dX5_isChannel_3 : decode cX5_isChannel 3 = .ok (.aload_n 0, 1) := by decide +kernel
theorem dX5_isChannel_4 : decode cX5_isChannel 4 = .ok (.getfield 7, 3) := by decide +kernel
theorem dX5_isChannel_7 : decode cX5_isChannel 7 = .ok (.iconst 1, 1) := by decide +kernel
theorem dX5_isChannel_8 : decode cX5_isChannel 8 = .ok (.iaload, 1) := by decide +kernel
theorem dX5_isChannel_9 : decode cX5_isChannel 9 = .ok (.iconst 1, 1) := by decide +kernel
theorem dX5_isChannel_10 : decode cX5_isChannel 10 = .ok (.isub, 1) := by decide +kernel
theorem dX5_isChannel_11 : decode cX5_isChannel 11 = .ok (.i2l, 1) := by decide +kernel
theorem dX5_isChannel_12 : decode cX5_isChannel 12 = .ok (.invokestatic 23, 3) := by decide +kernel
theorem dX5_isChannel_15 : decode cX5_isChannel 15 = .ok (.ireturn, 1) := by decide +kernel
theorem dX5_at_0 : decode cX5_at 0 = .ok (.iload_n 0, 1) := by decide +kernel
theorem dX5_at_1 : decode cX5_at 1 = .ok (.bipush 28, 2) := by decide +kernel
theorem dX5_at_3 : decode cX5_at 3 = .ok (.iadd, 1) := by decide +kernel
theorem dX5_at_4 : decode cX5_at 4 = .ok (.bipush 7, 2) := by decide +kernel
theorem dX5_at_6 : decode cX5_at 6 = .ok (.iload_n 1, 1) := by decide +kernel
theorem dX5_at_7 : decode cX5_at 7 = .ok (.imul, 1) := by decide +kernel
theorem dX5_at_8 : decode cX5_at 8 = .ok (.iadd, 1) := by decide +kernel
theorem dX5_at_9 : decode cX5_at 9 = .ok (.ireturn, 1) := by decide +kernel
theorem dX5_parts_0 : decode cX5_parts 0 = .ok (.iload_n 1, 1) := by decide +kernel
theorem dX5_parts_1 : decode cX5_parts 1 = .ok (.i2l, 1) := by decide +kernel
theorem dX5_parts_2 : decode cX5_parts 2 = .ok (.lconst 1, 1) := by decide +kernel
theorem dX5_parts_3 : decode cX5_parts 3 = .ok (.ldc2_w 27, 3) := by decide +kernel
theorem dX5_parts_6 : decode cX5_parts 6 = .ok (.invokestatic 23, 3) := by decide +kernel
theorem dX5_parts_9 : decode cX5_parts 9 = .ok (.ifCond .ne 6, 3) := by decide +kernel
theorem dX5_parts_12 : decode cX5_parts 12 = .ok (.ldc 29, 2) := by decide +kernel
theorem dX5_parts_14 : decode cX5_parts 14 = .ok (.ireturn, 1) := by decide +kernel
theorem dX5_parts_15 : decode cX5_parts 15 = .ok (.aload_n 0, 1) := by decide +kernel
theorem dX5_parts_16 : decode cX5_parts 16 = .ok (.getfield 7, 3) := by decide +kernel
theorem dX5_parts_19 : decode cX5_parts 19 = .ok (.iconst 3, 1) := by decide +kernel
theorem dX5_parts_20 : decode cX5_parts 20 = .ok (.iaload, 1) := by decide +kernel
theorem dX5_parts_21 : decode cX5_parts 21 = .ok (.istore_n 2, 1) := by decide +kernel
theorem dX5_parts_22 : decode cX5_parts 22 = .ok (.aload_n 0, 1) := by decide +kernel
theorem dX5_parts_23 : decode cX5_parts 23 = .ok (.getfield 7, 3) := by decide +kernel
theorem dX5_parts_26 : decode cX5_parts 26 = .ok (.iconst 2, 1) := by decide +kernel
theorem dX5_parts_27 : decode cX5_parts 27 = .ok (.iaload, 1) := by decide +kernel
theorem dX5_parts_28 : decode cX5_parts 28 = .ok (.istore_n 3, 1) := by decide +kernel
theorem dX5_parts_29 : decode cX5_parts 29 = .ok (.iconst 0, 1) := by decide +kernel
theorem dX5_parts_30 : decode cX5_parts 30 = .ok (.istore 4, 2) := by decide +kernel
theorem dX5_parts_32 : decode cX5_parts 32 = .ok (.iload 4, 2) := by decide +kernel
theorem dX5_parts_34 : decode cX5_parts 34 = .ok (.sipush 262, 3) := by decide +kernel
theorem dX5_parts_37 : decode cX5_parts 37 = .ok (.if_icmp .ge 17, 3) := by decide +kernel
theorem dX5_parts_40 : decode cX5_parts 40 = .ok (.aload_n 0, 1) := by decide +kernel
theorem dX5_parts_41 : decode cX5_parts 41 = .ok (.getfield 7, 3) := by decide +kernel
theorem dX5_parts_44 : decode cX5_parts 44 = .ok (.iload 4, 2) := by decide +kernel
theorem dX5_parts_46 : decode cX5_parts 46 = .ok (.iconst 0, 1) := by decide +kernel
theorem dX5_parts_47 : decode cX5_parts 47 = .ok (.iastore, 1) := by decide +kernel
theorem dX5_parts_48 : decode cX5_parts 48 = .ok (.iinc 4 1, 3) := by decide +kernel
theorem dX5_parts_51 : decode cX5_parts 51 = .ok (.goto (-19), 3) := by decide +kernel
theorem dX5_parts_54 : decode cX5_parts 54 = .ok (.aload_n 0, 1) := by decide +kernel
theorem dX5_parts_55 : decode cX5_parts 55 = .ok (.getfield 7, 3) := by decide +kernel
theorem dX5_parts_58 : decode cX5_parts 58 = .ok (.iconst 0, 1) := by decide +kernel
theorem dX5_parts_59 : decode cX5_parts 59 = .ok (.iload_n 1, 1) := by decide +kernel
theorem dX5_parts_60 : decode cX5_parts 60 = .ok (.iastore, 1) := by decide +kernel
theorem dX5_parts_61 : decode cX5_parts 61 = .ok (.aload_n 0, 1) := by decide +kernel
theorem dX5_parts_62 : decode cX5_parts 62 = .ok (.getfield 7, 3) := by decide +kernel
theorem dX5_parts_65 : decode cX5_parts 65 = .ok (.iconst 2, 1) := by decide +kernel
theorem dX5_parts_66 : decode cX5_parts 66 = .ok (.iload_n 3, 1) := by decide +kernel
theorem dX5_parts_67 : decode cX5_parts 67 = .ok (.iastore, 1) := by decide +kernel
theorem dX5_parts_68 : decode cX5_parts 68 = .ok (.aload_n 0, 1) := by decide +kernel
theorem dX5_parts_69 : decode cX5_parts 69 = .ok (.iconst 0, 1) := by decide +kernel
theorem dX5_parts_70 : decode cX5_parts 70 = .ok (.putfield 30, 3) := by decide +kernel
theorem dX5_parts_73 : decode cX5_parts 73 = .ok (.aload_n 0, 1) := by decide +kernel
theorem dX5_parts_74 : decode cX5_parts 74 = .ok (.getfield 13, 3) := by decide +kernel
theorem dX5_parts_77 : decode cX5_parts 77 = .ok (.iconst 0, 1) := by decide +kernel
theorem dX5_parts_78 : decode cX5_parts 78 = .ok (.iconst 0, 1) := by decide +kernel
theorem dX5_parts_79 : decode cX5_parts 79 = .ok (.bastore, 1) := by decide +kernel
theorem dX5_parts_80 : decode cX5_parts 80 = .ok (.aload_n 0, 1) := by decide +kernel
theorem dX5_parts_81 : decode cX5_parts 81 = .ok (.getfield 13, 3) := by decide +kernel
theorem dX5_parts_84 : decode cX5_parts 84 = .ok (.iconst 1, 1) := by decide +kernel
theorem dX5_parts_85 : decode cX5_parts 85 = .ok (.iconst 0, 1) := by decide +kernel
theorem dX5_parts_86 : decode cX5_parts 86 = .ok (.bastore, 1) := by decide +kernel
theorem dX5_parts_87 : decode cX5_parts 87 = .ok (.iload_n 2, 1) := by decide +kernel
theorem dX5_parts_88 : decode cX5_parts 88 = .ok (.ireturn, 1) := by decide +kernel
theorem dX5_wayOf_0 : decode cX5_wayOf 0 = .ok (.iconst 0, 1) := by decide +kernel
theorem dX5_wayOf_1 : decode cX5_wayOf 1 = .ok (.istore_n 3, 1) := by decide +kernel
theorem dX5_wayOf_2 : decode cX5_wayOf 2 = .ok (.iload_n 3, 1) := by decide +kernel
theorem dX5_wayOf_3 : decode cX5_wayOf 3 = .ok (.aload_n 0, 1) := by decide +kernel
theorem dX5_wayOf_4 : decode cX5_wayOf 4 = .ok (.getfield 7, 3) := by decide +kernel
theorem dX5_wayOf_7 : decode cX5_wayOf 7 = .ok (.iconst 1, 1) := by decide +kernel
theorem dX5_wayOf_8 : decode cX5_wayOf 8 = .ok (.iaload, 1) := by decide +kernel
theorem dX5_wayOf_9 : decode cX5_wayOf 9 = .ok (.if_icmp .ge 43, 3) := by decide +kernel
theorem dX5_wayOf_12 : decode cX5_wayOf 12 = .ok (.aload_n 0, 1) := by decide +kernel
theorem dX5_wayOf_13 : decode cX5_wayOf 13 = .ok (.getfield 7, 3) := by decide +kernel
theorem dX5_wayOf_16 : decode cX5_wayOf 16 = .ok (.iconst 0, 1) := by decide +kernel
theorem dX5_wayOf_17 : decode cX5_wayOf 17 = .ok (.iload_n 3, 1) := by decide +kernel
theorem dX5_wayOf_18 : decode cX5_wayOf 18 = .ok (.invokestatic 34, 3) := by decide +kernel
theorem dX5_wayOf_21 : decode cX5_wayOf 21 = .ok (.iconst 0, 1) := by decide +kernel
theorem dX5_wayOf_22 : decode cX5_wayOf 22 = .ok (.iadd, 1) := by decide +kernel
theorem dX5_wayOf_23 : decode cX5_wayOf 23 = .ok (.iaload, 1) := by decide +kernel
theorem dX5_wayOf_24 : decode cX5_wayOf 24 = .ok (.iload_n 1, 1) := by decide +kernel
theorem dX5_wayOf_25 : decode cX5_wayOf 25 = .ok (.if_icmp .ne 21, 3) := by decide +kernel
theorem dX5_wayOf_28 : decode cX5_wayOf 28 = .ok (.aload_n 0, 1) := by decide +kernel
theorem dX5_wayOf_29 : decode cX5_wayOf 29 = .ok (.getfield 7, 3) := by decide +kernel
theorem dX5_wayOf_32 : decode cX5_wayOf 32 = .ok (.iconst 0, 1) := by decide +kernel
theorem dX5_wayOf_33 : decode cX5_wayOf 33 = .ok (.iload_n 3, 1) := by decide +kernel
theorem dX5_wayOf_34 : decode cX5_wayOf 34 = .ok (.invokestatic 34, 3) := by decide +kernel
theorem dX5_wayOf_37 : decode cX5_wayOf 37 = .ok (.iconst 1, 1) := by decide +kernel
theorem dX5_wayOf_38 : decode cX5_wayOf 38 = .ok (.iadd, 1) := by decide +kernel
theorem dX5_wayOf_39 : decode cX5_wayOf 39 = .ok (.iaload, 1) := by decide +kernel
theorem dX5_wayOf_40 : decode cX5_wayOf 40 = .ok (.iload_n 2, 1) := by decide +kernel
theorem dX5_wayOf_41 : decode cX5_wayOf 41 = .ok (.if_icmp .ne 5, 3) := by decide +kernel
theorem dX5_wayOf_44 : decode cX5_wayOf 44 = .ok (.iload_n 3, 1) := by decide +kernel
theorem dX5_wayOf_45 : decode cX5_wayOf 45 = .ok (.ireturn, 1) := by decide +kernel
theorem dX5_wayOf_46 : decode cX5_wayOf 46 = .ok (.iinc 3 1, 3) := by decide +kernel
theorem dX5_wayOf_49 : decode cX5_wayOf 49 = .ok (.goto (-47), 3) := by decide +kernel
theorem dX5_wayOf_52 : decode cX5_wayOf 52 = .ok (.iconst (-1), 1) := by decide +kernel
theorem dX5_wayOf_53 : decode cX5_wayOf 53 = .ok (.ireturn, 1) := by decide +kernel
theorem dX5_channel_0 : decode cX5_channel 0 = .ok (.aload_n 0, 1) := by decide +kernel
theorem dX5_channel_1 : decode cX5_channel 1 = .ok (.iload_n 1, 1) := by decide +kernel
theorem dX5_channel_2 : decode cX5_channel 2 = .ok (.invokevirtual 38, 3) := by decide +kernel
theorem dX5_channel_5 : decode cX5_channel 5 = .ok (.ifCond .eq 16, 3) := by decide +kernel
theorem dX5_channel_8 : decode cX5_channel 8 = .ok (.aload_n 0, 1) := by decide +kernel
theorem dX5_channel_9 : decode cX5_channel 9 = .ok (.iload_n 2, 1) := by decide +kernel
theorem dX5_channel_10 : decode cX5_channel 10 = .ok (.invokevirtual 38, 3) := by decide +kernel
theorem dX5_channel_13 : decode cX5_channel 13 = .ok (.ifCond .eq 8, 3) := by decide +kernel
theorem dX5_channel_16 : decode cX5_channel 16 = .ok (.iload_n 1, 1) := by decide +kernel
theorem dX5_channel_17 : decode cX5_channel 17 = .ok (.iload_n 2, 1) := by decide +kernel
theorem dX5_channel_18 : decode cX5_channel 18 = .ok (.if_icmp .ne 6, 3) := by decide +kernel
theorem dX5_channel_21 : decode cX5_channel 21 = .ok (.ldc 42, 2) := by decide +kernel
theorem dX5_channel_23 : decode cX5_channel 23 = .ok (.ireturn, 1) := by decide +kernel
theorem dX5_channel_24 : decode cX5_channel 24 = .ok (.iload_n 3, 1) := by decide +kernel
theorem dX5_channel_25 : decode cX5_channel 25 = .ok (.i2l, 1) := by decide +kernel
theorem dX5_channel_26 : decode cX5_channel 26 = .ok (.lconst 0, 1) := by decide +kernel
theorem dX5_channel_27 : decode cX5_channel 27 = .ok (.ldc2_w 43, 3) := by decide +kernel
theorem dX5_channel_30 : decode cX5_channel 30 = .ok (.invokestatic 23, 3) := by decide +kernel
theorem dX5_channel_33 : decode cX5_channel 33 = .ok (.ifCond .eq 22, 3) := by decide +kernel
theorem dX5_channel_36 : decode cX5_channel 36 = .ok (.iload 4, 2) := by decide +kernel
theorem dX5_channel_38 : decode cX5_channel 38 = .ok (.i2l, 1) := by decide +kernel
theorem dX5_channel_39 : decode cX5_channel 39 = .ok (.lconst 1, 1) := by decide +kernel
theorem dX5_channel_40 : decode cX5_channel 40 = .ok (.ldc2_w 43, 3) := by decide +kernel
theorem dX5_channel_43 : decode cX5_channel 43 = .ok (.invokestatic 23, 3) := by decide +kernel
theorem dX5_channel_46 : decode cX5_channel 46 = .ok (.ifCond .eq 9, 3) := by decide +kernel
theorem dX5_channel_49 : decode cX5_channel 49 = .ok (.iload 4, 2) := by decide +kernel
theorem dX5_channel_51 : decode cX5_channel 51 = .ok (.iload_n 3, 1) := by decide +kernel
theorem dX5_channel_52 : decode cX5_channel 52 = .ok (.if_icmp .ge 6, 3) := by decide +kernel
theorem dX5_channel_55 : decode cX5_channel 55 = .ok (.ldc 29, 2) := by decide +kernel
theorem dX5_channel_57 : decode cX5_channel 57 = .ok (.ireturn, 1) := by decide +kernel
theorem dX5_channel_58 : decode cX5_channel 58 = .ok (.aload_n 0, 1) := by decide +kernel
theorem dX5_channel_59 : decode cX5_channel 59 = .ok (.iload_n 1, 1) := by decide +kernel
theorem dX5_channel_60 : decode cX5_channel 60 = .ok (.iload_n 2, 1) := by decide +kernel
theorem dX5_channel_61 : decode cX5_channel 61 = .ok (.invokevirtual 45, 3) := by decide +kernel
theorem dX5_channel_64 : decode cX5_channel 64 = .ok (.iconst (-1), 1) := by decide +kernel
theorem dX5_channel_65 : decode cX5_channel 65 = .ok (.if_icmp .ne 20, 3) := by decide +kernel
theorem dX5_channel_68 : decode cX5_channel 68 = .ok (.aload_n 0, 1) := by decide +kernel
theorem dX5_channel_69 : decode cX5_channel 69 = .ok (.getfield 7, 3) := by decide +kernel
theorem dX5_channel_72 : decode cX5_channel 72 = .ok (.iconst 5, 1) := by decide +kernel
theorem dX5_channel_73 : decode cX5_channel 73 = .ok (.iaload, 1) := by decide +kernel
theorem dX5_channel_74 : decode cX5_channel 74 = .ok (.aload_n 0, 1) := by decide +kernel
theorem dX5_channel_75 : decode cX5_channel 75 = .ok (.getfield 7, 3) := by decide +kernel
theorem dX5_channel_78 : decode cX5_channel 78 = .ok (.bipush 6, 2) := by decide +kernel
theorem dX5_channel_80 : decode cX5_channel 80 = .ok (.iaload, 1) := by decide +kernel
theorem dX5_channel_81 : decode cX5_channel 81 = .ok (.iadd, 1) := by decide +kernel
theorem dX5_channel_82 : decode cX5_channel 82 = .ok (.ifCond .le 6, 3) := by decide +kernel
theorem dX5_channel_85 : decode cX5_channel 85 = .ok (.ldc 48, 2) := by decide +kernel
theorem dX5_channel_87 : decode cX5_channel 87 = .ok (.ireturn, 1) := by decide +kernel
theorem dX5_channel_88 : decode cX5_channel 88 = .ok (.aload_n 0, 1) := by decide +kernel
theorem dX5_channel_89 : decode cX5_channel 89 = .ok (.getfield 7, 3) := by decide +kernel
theorem dX5_channel_92 : decode cX5_channel 92 = .ok (.iconst 1, 1) := by decide +kernel
theorem dX5_channel_93 : decode cX5_channel 93 = .ok (.iaload, 1) := by decide +kernel
theorem dX5_channel_94 : decode cX5_channel 94 = .ok (.bipush 12, 2) := by decide +kernel
theorem dX5_channel_96 : decode cX5_channel 96 = .ok (.if_icmp .ne 6, 3) := by decide +kernel
theorem dX5_channel_99 : decode cX5_channel 99 = .ok (.ldc 49, 2) := by decide +kernel
theorem dX5_channel_101 : decode cX5_channel 101 = .ok (.ireturn, 1) := by decide +kernel
theorem dX5_channel_102 : decode cX5_channel 102 = .ok (.iconst 0, 1) := by decide +kernel
theorem dX5_channel_103 : decode cX5_channel 103 = .ok (.aload_n 0, 1) := by decide +kernel
theorem dX5_channel_104 : decode cX5_channel 104 = .ok (.getfield 7, 3) := by decide +kernel
theorem dX5_channel_107 : decode cX5_channel 107 = .ok (.iconst 1, 1) := by decide +kernel
theorem dX5_channel_108 : decode cX5_channel 108 = .ok (.iaload, 1) := by decide +kernel
theorem dX5_channel_109 : decode cX5_channel 109 = .ok (.invokestatic 34, 3) := by decide +kernel
theorem dX5_channel_112 : decode cX5_channel 112 = .ok (.istore 5, 2) := by decide +kernel
theorem dX5_channel_114 : decode cX5_channel 114 = .ok (.aload_n 0, 1) := by decide +kernel
theorem dX5_channel_115 : decode cX5_channel 115 = .ok (.getfield 7, 3) := by decide +kernel
theorem dX5_channel_118 : decode cX5_channel 118 = .ok (.iload 5, 2) := by decide +kernel
theorem dX5_channel_120 : decode cX5_channel 120 = .ok (.iconst 0, 1) := by decide +kernel
theorem dX5_channel_121 : decode cX5_channel 121 = .ok (.iadd, 1) := by decide +kernel
theorem dX5_channel_122 : decode cX5_channel 122 = .ok (.iload_n 1, 1) := by decide +kernel
theorem dX5_channel_123 : decode cX5_channel 123 = .ok (.iastore, 1) := by decide +kernel
theorem dX5_channel_124 : decode cX5_channel 124 = .ok (.aload_n 0, 1) := by decide +kernel
theorem dX5_channel_125 : decode cX5_channel 125 = .ok (.getfield 7, 3) := by decide +kernel
theorem dX5_channel_128 : decode cX5_channel 128 = .ok (.iload 5, 2) := by decide +kernel
theorem dX5_channel_130 : decode cX5_channel 130 = .ok (.iconst 1, 1) := by decide +kernel
theorem dX5_channel_131 : decode cX5_channel 131 = .ok (.iadd, 1) := by decide +kernel
theorem dX5_channel_132 : decode cX5_channel 132 = .ok (.iload_n 2, 1) := by decide +kernel
theorem dX5_channel_133 : decode cX5_channel 133 = .ok (.iastore, 1) := by decide +kernel
theorem dX5_channel_134 : decode cX5_channel 134 = .ok (.aload_n 0, 1) := by decide +kernel
theorem dX5_channel_135 : decode cX5_channel 135 = .ok (.getfield 7, 3) := by decide +kernel
theorem dX5_channel_138 : decode cX5_channel 138 = .ok (.iload 5, 2) := by decide +kernel
theorem dX5_channel_140 : decode cX5_channel 140 = .ok (.iconst 2, 1) := by decide +kernel
theorem dX5_channel_141 : decode cX5_channel 141 = .ok (.iadd, 1) := by decide +kernel
theorem dX5_channel_142 : decode cX5_channel 142 = .ok (.iload_n 3, 1) := by decide +kernel
theorem dX5_channel_143 : decode cX5_channel 143 = .ok (.iastore, 1) := by decide +kernel
theorem dX5_channel_144 : decode cX5_channel 144 = .ok (.aload_n 0, 1) := by decide +kernel
theorem dX5_channel_145 : decode cX5_channel 145 = .ok (.getfield 7, 3) := by decide +kernel
theorem dX5_channel_148 : decode cX5_channel 148 = .ok (.iload 5, 2) := by decide +kernel
theorem dX5_channel_150 : decode cX5_channel 150 = .ok (.iconst 3, 1) := by decide +kernel
theorem dX5_channel_151 : decode cX5_channel 151 = .ok (.iadd, 1) := by decide +kernel
theorem dX5_channel_152 : decode cX5_channel 152 = .ok (.iload 4, 2) := by decide +kernel
theorem dX5_channel_154 : decode cX5_channel 154 = .ok (.iastore, 1) := by decide +kernel
theorem dX5_channel_155 : decode cX5_channel 155 = .ok (.aload_n 0, 1) := by decide +kernel
theorem dX5_channel_156 : decode cX5_channel 156 = .ok (.getfield 7, 3) := by decide +kernel
theorem dX5_channel_159 : decode cX5_channel 159 = .ok (.iload 5, 2) := by decide +kernel
theorem dX5_channel_161 : decode cX5_channel 161 = .ok (.iconst 4, 1) := by decide +kernel
theorem dX5_channel_162 : decode cX5_channel 162 = .ok (.iadd, 1) := by decide +kernel
theorem dX5_channel_163 : decode cX5_channel 163 = .ok (.iconst 0, 1) := by decide +kernel
theorem dX5_channel_164 : decode cX5_channel 164 = .ok (.iastore, 1) := by decide +kernel
theorem dX5_channel_165 : decode cX5_channel 165 = .ok (.aload_n 0, 1) := by decide +kernel
theorem dX5_channel_166 : decode cX5_channel 166 = .ok (.getfield 7, 3) := by decide +kernel
theorem dX5_channel_169 : decode cX5_channel 169 = .ok (.iload 5, 2) := by decide +kernel
theorem dX5_channel_171 : decode cX5_channel 171 = .ok (.iconst 5, 1) := by decide +kernel
theorem dX5_channel_172 : decode cX5_channel 172 = .ok (.iadd, 1) := by decide +kernel
theorem dX5_channel_173 : decode cX5_channel 173 = .ok (.iconst 0, 1) := by decide +kernel
theorem dX5_channel_174 : decode cX5_channel 174 = .ok (.iastore, 1) := by decide +kernel
theorem dX5_channel_175 : decode cX5_channel 175 = .ok (.aload_n 0, 1) := by decide +kernel
theorem dX5_channel_176 : decode cX5_channel 176 = .ok (.getfield 7, 3) := by decide +kernel
theorem dX5_channel_179 : decode cX5_channel 179 = .ok (.iload 5, 2) := by decide +kernel
theorem dX5_channel_181 : decode cX5_channel 181 = .ok (.bipush 6, 2) := by decide +kernel
theorem dX5_channel_183 : decode cX5_channel 183 = .ok (.iadd, 1) := by decide +kernel
theorem dX5_channel_184 : decode cX5_channel 184 = .ok (.iconst 0, 1) := by decide +kernel
theorem dX5_channel_185 : decode cX5_channel 185 = .ok (.iastore, 1) := by decide +kernel
theorem dX5_channel_186 : decode cX5_channel 186 = .ok (.aload_n 0, 1) := by decide +kernel
theorem dX5_channel_187 : decode cX5_channel 187 = .ok (.getfield 7, 3) := by decide +kernel
theorem dX5_channel_190 : decode cX5_channel 190 = .ok (.iconst 1, 1) := by decide +kernel
theorem dX5_channel_191 : decode cX5_channel 191 = .ok (.dup2, 1) := by decide +kernel
theorem dX5_channel_192 : decode cX5_channel 192 = .ok (.iaload, 1) := by decide +kernel
theorem dX5_channel_193 : decode cX5_channel 193 = .ok (.iconst 1, 1) := by decide +kernel
theorem dX5_channel_194 : decode cX5_channel 194 = .ok (.iadd, 1) := by decide +kernel
theorem dX5_channel_195 : decode cX5_channel 195 = .ok (.iastore, 1) := by decide +kernel
theorem dX5_channel_196 : decode cX5_channel 196 = .ok (.aload_n 0, 1) := by decide +kernel
theorem dX5_channel_197 : decode cX5_channel 197 = .ok (.getfield 7, 3) := by decide +kernel
theorem dX5_channel_200 : decode cX5_channel 200 = .ok (.iconst 1, 1) := by decide +kernel
theorem dX5_channel_201 : decode cX5_channel 201 = .ok (.iaload, 1) := by decide +kernel
theorem dX5_channel_202 : decode cX5_channel 202 = .ok (.iconst 1, 1) := by decide +kernel
theorem dX5_channel_203 : decode cX5_channel 203 = .ok (.isub, 1) := by decide +kernel
theorem dX5_channel_204 : decode cX5_channel 204 = .ok (.ireturn, 1) := by decide +kernel
theorem dX5_comes_0 : decode cX5_comes 0 = .ok (.iload_n 1, 1) := by decide +kernel
theorem dX5_comes_1 : decode cX5_comes 1 = .ok (.bipush 112, 2) := by decide +kernel
theorem dX5_comes_3 : decode cX5_comes 3 = .ok (.iadd, 1) := by decide +kernel
theorem dX5_comes_4 : decode cX5_comes 4 = .ok (.iconst 5, 1) := by decide +kernel
theorem dX5_comes_5 : decode cX5_comes 5 = .ok (.aload_n 0, 1) := by decide +kernel
theorem dX5_comes_6 : decode cX5_comes 6 = .ok (.getfield 7, 3) := by decide +kernel
theorem dX5_comes_9 : decode cX5_comes 9 = .ok (.iload_n 1, 1) := by decide +kernel
theorem dX5_comes_10 : decode cX5_comes 10 = .ok (.bipush 9, 2) := by decide +kernel
theorem dX5_comes_12 : decode cX5_comes 12 = .ok (.iadd, 1) := by decide +kernel
theorem dX5_comes_13 : decode cX5_comes 13 = .ok (.iaload, 1) := by decide +kernel
theorem dX5_comes_14 : decode cX5_comes 14 = .ok (.imul, 1) := by decide +kernel
theorem dX5_comes_15 : decode cX5_comes 15 = .ok (.iadd, 1) := by decide +kernel
theorem dX5_comes_16 : decode cX5_comes 16 = .ok (.istore 6, 2) := by decide +kernel
theorem dX5_comes_18 : decode cX5_comes 18 = .ok (.aload_n 0, 1) := by decide +kernel
theorem dX5_comes_19 : decode cX5_comes 19 = .ok (.getfield 7, 3) := by decide +kernel
theorem dX5_comes_22 : decode cX5_comes 22 = .ok (.iload 6, 2) := by decide +kernel
theorem dX5_comes_24 : decode cX5_comes 24 = .ok (.iconst 0, 1) := by decide +kernel
theorem dX5_comes_25 : decode cX5_comes 25 = .ok (.iadd, 1) := by decide +kernel
theorem dX5_comes_26 : decode cX5_comes 26 = .ok (.iload_n 2, 1) := by decide +kernel
theorem dX5_comes_27 : decode cX5_comes 27 = .ok (.iastore, 1) := by decide +kernel
theorem dX5_comes_28 : decode cX5_comes 28 = .ok (.aload_n 0, 1) := by decide +kernel
theorem dX5_comes_29 : decode cX5_comes 29 = .ok (.getfield 7, 3) := by decide +kernel
theorem dX5_comes_32 : decode cX5_comes 32 = .ok (.iload 6, 2) := by decide +kernel
theorem dX5_comes_34 : decode cX5_comes 34 = .ok (.iconst 1, 1) := by decide +kernel
theorem dX5_comes_35 : decode cX5_comes 35 = .ok (.iadd, 1) := by decide +kernel
theorem dX5_comes_36 : decode cX5_comes 36 = .ok (.iload_n 3, 1) := by decide +kernel
theorem dX5_comes_37 : decode cX5_comes 37 = .ok (.iastore, 1) := by decide +kernel
theorem dX5_comes_38 : decode cX5_comes 38 = .ok (.aload_n 0, 1) := by decide +kernel
theorem dX5_comes_39 : decode cX5_comes 39 = .ok (.getfield 7, 3) := by decide +kernel
theorem dX5_comes_42 : decode cX5_comes 42 = .ok (.iload 6, 2) := by decide +kernel
theorem dX5_comes_44 : decode cX5_comes 44 = .ok (.iconst 2, 1) := by decide +kernel
theorem dX5_comes_45 : decode cX5_comes 45 = .ok (.iadd, 1) := by decide +kernel
theorem dX5_comes_46 : decode cX5_comes 46 = .ok (.iload 4, 2) := by decide +kernel
theorem dX5_comes_48 : decode cX5_comes 48 = .ok (.iastore, 1) := by decide +kernel
theorem dX5_comes_49 : decode cX5_comes 49 = .ok (.aload_n 0, 1) := by decide +kernel
theorem dX5_comes_50 : decode cX5_comes 50 = .ok (.getfield 7, 3) := by decide +kernel
theorem dX5_comes_53 : decode cX5_comes 53 = .ok (.iload 6, 2) := by decide +kernel
theorem dX5_comes_55 : decode cX5_comes 55 = .ok (.iconst 3, 1) := by decide +kernel
theorem dX5_comes_56 : decode cX5_comes 56 = .ok (.iadd, 1) := by decide +kernel
theorem dX5_comes_57 : decode cX5_comes 57 = .ok (.iload 5, 2) := by decide +kernel
theorem dX5_comes_59 : decode cX5_comes 59 = .ok (.iastore, 1) := by decide +kernel
theorem dX5_comes_60 : decode cX5_comes 60 = .ok (.aload_n 0, 1) := by decide +kernel
theorem dX5_comes_61 : decode cX5_comes 61 = .ok (.getfield 7, 3) := by decide +kernel
theorem dX5_comes_64 : decode cX5_comes 64 = .ok (.iload 6, 2) := by decide +kernel
theorem dX5_comes_66 : decode cX5_comes 66 = .ok (.iconst 4, 1) := by decide +kernel
theorem dX5_comes_67 : decode cX5_comes 67 = .ok (.iadd, 1) := by decide +kernel
theorem dX5_comes_68 : decode cX5_comes 68 = .ok (.aload_n 0, 1) := by decide +kernel
theorem dX5_comes_69 : decode cX5_comes 69 = .ok (.getfield 7, 3) := by decide +kernel
theorem dX5_comes_72 : decode cX5_comes 72 = .ok (.iload_n 1, 1) := by decide +kernel
theorem dX5_comes_73 : decode cX5_comes 73 = .ok (.bipush 8, 2) := by decide +kernel
theorem dX5_comes_75 : decode cX5_comes 75 = .ok (.iadd, 1) := by decide +kernel
theorem dX5_comes_76 : decode cX5_comes 76 = .ok (.iaload, 1) := by decide +kernel
theorem dX5_comes_77 : decode cX5_comes 77 = .ok (.iastore, 1) := by decide +kernel
theorem dX5_comes_78 : decode cX5_comes 78 = .ok (.aload_n 0, 1) := by decide +kernel
theorem dX5_comes_79 : decode cX5_comes 79 = .ok (.getfield 7, 3) := by decide +kernel
theorem dX5_comes_82 : decode cX5_comes 82 = .ok (.iload_n 1, 1) := by decide +kernel
theorem dX5_comes_83 : decode cX5_comes 83 = .ok (.bipush 8, 2) := by decide +kernel
theorem dX5_comes_85 : decode cX5_comes 85 = .ok (.iadd, 1) := by decide +kernel
theorem dX5_comes_86 : decode cX5_comes 86 = .ok (.dup2, 1) := by decide +kernel
theorem dX5_comes_87 : decode cX5_comes 87 = .ok (.iaload, 1) := by decide +kernel
theorem dX5_comes_88 : decode cX5_comes 88 = .ok (.iconst 1, 1) := by decide +kernel
theorem dX5_comes_89 : decode cX5_comes 89 = .ok (.iadd, 1) := by decide +kernel
theorem dX5_comes_90 : decode cX5_comes 90 = .ok (.iastore, 1) := by decide +kernel
theorem dX5_comes_91 : decode cX5_comes 91 = .ok (.aload_n 0, 1) := by decide +kernel
theorem dX5_comes_92 : decode cX5_comes 92 = .ok (.getfield 7, 3) := by decide +kernel
theorem dX5_comes_95 : decode cX5_comes 95 = .ok (.iload_n 1, 1) := by decide +kernel
theorem dX5_comes_96 : decode cX5_comes 96 = .ok (.bipush 9, 2) := by decide +kernel
theorem dX5_comes_98 : decode cX5_comes 98 = .ok (.iadd, 1) := by decide +kernel
theorem dX5_comes_99 : decode cX5_comes 99 = .ok (.dup2, 1) := by decide +kernel
theorem dX5_comes_100 : decode cX5_comes 100 = .ok (.iaload, 1) := by decide +kernel
theorem dX5_comes_101 : decode cX5_comes 101 = .ok (.iconst 1, 1) := by decide +kernel
theorem dX5_comes_102 : decode cX5_comes 102 = .ok (.iadd, 1) := by decide +kernel
theorem dX5_comes_103 : decode cX5_comes 103 = .ok (.iastore, 1) := by decide +kernel
theorem dX5_comes_104 : decode cX5_comes 104 = .ok (.return_, 1) := by decide +kernel
theorem dX5_waitFor_0 : decode cX5_waitFor 0 = .ok (.iconst 0, 1) := by decide +kernel
theorem dX5_waitFor_1 : decode cX5_waitFor 1 = .ok (.istore_n 3, 1) := by decide +kernel
theorem dX5_waitFor_2 : decode cX5_waitFor 2 = .ok (.iconst 0, 1) := by decide +kernel
theorem dX5_waitFor_3 : decode cX5_waitFor 3 = .ok (.istore 4, 2) := by decide +kernel
theorem dX5_waitFor_5 : decode cX5_waitFor 5 = .ok (.iload 4, 2) := by decide +kernel
theorem dX5_waitFor_7 : decode cX5_waitFor 7 = .ok (.aload_n 0, 1) := by decide +kernel
theorem dX5_waitFor_8 : decode cX5_waitFor 8 = .ok (.getfield 7, 3) := by decide +kernel
theorem dX5_waitFor_11 : decode cX5_waitFor 11 = .ok (.iload_n 1, 1) := by decide +kernel
theorem dX5_waitFor_12 : decode cX5_waitFor 12 = .ok (.bipush 9, 2) := by decide +kernel
theorem dX5_waitFor_14 : decode cX5_waitFor 14 = .ok (.iadd, 1) := by decide +kernel
theorem dX5_waitFor_15 : decode cX5_waitFor 15 = .ok (.iaload, 1) := by decide +kernel
theorem dX5_waitFor_16 : decode cX5_waitFor 16 = .ok (.if_icmp .ge 37, 3) := by decide +kernel
theorem dX5_waitFor_19 : decode cX5_waitFor 19 = .ok (.iload_n 3, 1) := by decide +kernel
theorem dX5_waitFor_20 : decode cX5_waitFor 20 = .ok (.aload_n 0, 1) := by decide +kernel
theorem dX5_waitFor_21 : decode cX5_waitFor 21 = .ok (.getfield 7, 3) := by decide +kernel
theorem dX5_waitFor_24 : decode cX5_waitFor 24 = .ok (.iload_n 1, 1) := by decide +kernel
theorem dX5_waitFor_25 : decode cX5_waitFor 25 = .ok (.bipush 112, 2) := by decide +kernel
theorem dX5_waitFor_27 : decode cX5_waitFor 27 = .ok (.iadd, 1) := by decide +kernel
theorem dX5_waitFor_28 : decode cX5_waitFor 28 = .ok (.iconst 5, 1) := by decide +kernel
theorem dX5_waitFor_29 : decode cX5_waitFor 29 = .ok (.iload 4, 2) := by decide +kernel
theorem dX5_waitFor_31 : decode cX5_waitFor 31 = .ok (.imul, 1) := by decide +kernel
theorem dX5_waitFor_32 : decode cX5_waitFor 32 = .ok (.iadd, 1) := by decide +kernel
theorem dX5_waitFor_33 : decode cX5_waitFor 33 = .ok (.iconst 0, 1) := by decide +kernel
theorem dX5_waitFor_34 : decode cX5_waitFor 34 = .ok (.iadd, 1) := by decide +kernel
theorem dX5_waitFor_35 : decode cX5_waitFor 35 = .ok (.iaload, 1) := by decide +kernel
theorem dX5_waitFor_36 : decode cX5_waitFor 36 = .ok (.iload_n 2, 1) := by decide +kernel
theorem dX5_waitFor_37 : decode cX5_waitFor 37 = .ok (.if_icmp .ne 7, 3) := by decide +kernel
theorem dX5_waitFor_40 : decode cX5_waitFor 40 = .ok (.iconst 1, 1) := by decide +kernel
theorem dX5_waitFor_41 : decode cX5_waitFor 41 = .ok (.goto 4, 3) := by decide +kernel
theorem dX5_waitFor_44 : decode cX5_waitFor 44 = .ok (.iconst 0, 1) := by decide +kernel
theorem dX5_waitFor_45 : decode cX5_waitFor 45 = .ok (.iadd, 1) := by decide +kernel
theorem dX5_waitFor_46 : decode cX5_waitFor 46 = .ok (.istore_n 3, 1) := by decide +kernel
theorem dX5_waitFor_47 : decode cX5_waitFor 47 = .ok (.iinc 4 1, 3) := by decide +kernel
theorem dX5_waitFor_50 : decode cX5_waitFor 50 = .ok (.goto (-45), 3) := by decide +kernel
theorem dX5_waitFor_53 : decode cX5_waitFor 53 = .ok (.iload_n 3, 1) := by decide +kernel
theorem dX5_waitFor_54 : decode cX5_waitFor 54 = .ok (.ireturn, 1) := by decide +kernel
theorem dX5_isPromised_0 : decode cX5_isPromised 0 = .ok (.iconst 0, 1) := by decide +kernel
theorem dX5_isPromised_1 : decode cX5_isPromised 1 = .ok (.istore_n 3, 1) := by decide +kernel
theorem dX5_isPromised_2 : decode cX5_isPromised 2 = .ok (.iconst 0, 1) := by decide +kernel
theorem dX5_isPromised_3 : decode cX5_isPromised 3 = .ok (.istore 4, 2) := by decide +kernel
theorem dX5_isPromised_5 : decode cX5_isPromised 5 = .ok (.iload 4, 2) := by decide +kernel
theorem dX5_isPromised_7 : decode cX5_isPromised 7 = .ok (.aload_n 0, 1) := by decide +kernel
theorem dX5_isPromised_8 : decode cX5_isPromised 8 = .ok (.getfield 7, 3) := by decide +kernel
theorem dX5_isPromised_11 : decode cX5_isPromised 11 = .ok (.iconst 1, 1) := by decide +kernel
theorem dX5_isPromised_12 : decode cX5_isPromised 12 = .ok (.iaload, 1) := by decide +kernel
theorem dX5_isPromised_13 : decode cX5_isPromised 13 = .ok (.if_icmp .ge 67, 3) := by decide +kernel
theorem dX5_isPromised_16 : decode cX5_isPromised 16 = .ok (.iload_n 3, 1) := by decide +kernel
theorem dX5_isPromised_17 : decode cX5_isPromised 17 = .ok (.ifCond .ne 51, 3) := by decide +kernel
theorem dX5_isPromised_20 : decode cX5_isPromised 20 = .ok (.aload_n 0, 1) := by decide +kernel
theorem dX5_isPromised_21 : decode cX5_isPromised 21 = .ok (.getfield 7, 3) := by decide +kernel
theorem dX5_isPromised_24 : decode cX5_isPromised 24 = .ok (.iconst 0, 1) := by decide +kernel
theorem dX5_isPromised_25 : decode cX5_isPromised 25 = .ok (.iload 4, 2) := by decide +kernel
theorem dX5_isPromised_27 : decode cX5_isPromised 27 = .ok (.invokestatic 34, 3) := by decide +kernel
theorem dX5_isPromised_30 : decode cX5_isPromised 30 = .ok (.iconst 0, 1) := by decide +kernel
theorem dX5_isPromised_31 : decode cX5_isPromised 31 = .ok (.iadd, 1) := by decide +kernel
theorem dX5_isPromised_32 : decode cX5_isPromised 32 = .ok (.iaload, 1) := by decide +kernel
theorem dX5_isPromised_33 : decode cX5_isPromised 33 = .ok (.iload_n 1, 1) := by decide +kernel
theorem dX5_isPromised_34 : decode cX5_isPromised 34 = .ok (.if_icmp .ne 38, 3) := by decide +kernel
theorem dX5_isPromised_37 : decode cX5_isPromised 37 = .ok (.aload_n 0, 1) := by decide +kernel
theorem dX5_isPromised_38 : decode cX5_isPromised 38 = .ok (.getfield 7, 3) := by decide +kernel
theorem dX5_isPromised_41 : decode cX5_isPromised 41 = .ok (.iconst 0, 1) := by decide +kernel
theorem dX5_isPromised_42 : decode cX5_isPromised 42 = .ok (.iload 4, 2) := by decide +kernel
theorem dX5_isPromised_44 : decode cX5_isPromised 44 = .ok (.invokestatic 34, 3) := by decide +kernel
theorem dX5_isPromised_47 : decode cX5_isPromised 47 = .ok (.iconst 4, 1) := by decide +kernel
theorem dX5_isPromised_48 : decode cX5_isPromised 48 = .ok (.iadd, 1) := by decide +kernel
theorem dX5_isPromised_49 : decode cX5_isPromised 49 = .ok (.iaload, 1) := by decide +kernel
theorem dX5_isPromised_50 : decode cX5_isPromised 50 = .ok (.iload_n 2, 1) := by decide +kernel
theorem dX5_isPromised_51 : decode cX5_isPromised 51 = .ok (.aload_n 0, 1) := by decide +kernel
theorem dX5_isPromised_52 : decode cX5_isPromised 52 = .ok (.getfield 7, 3) := by decide +kernel
theorem dX5_isPromised_55 : decode cX5_isPromised 55 = .ok (.iconst 0, 1) := by decide +kernel
theorem dX5_isPromised_56 : decode cX5_isPromised 56 = .ok (.iload 4, 2) := by decide +kernel
theorem dX5_isPromised_58 : decode cX5_isPromised 58 = .ok (.invokestatic 34, 3) := by decide +kernel
theorem dX5_isPromised_61 : decode cX5_isPromised 61 = .ok (.iconst 2, 1) := by decide +kernel
theorem dX5_isPromised_62 : decode cX5_isPromised 62 = .ok (.iadd, 1) := by decide +kernel
theorem dX5_isPromised_63 : decode cX5_isPromised 63 = .ok (.iaload, 1) := by decide +kernel
theorem dX5_isPromised_64 : decode cX5_isPromised 64 = .ok (.iadd, 1) := by decide +kernel
theorem dX5_isPromised_65 : decode cX5_isPromised 65 = .ok (.if_icmp .le 7, 3) := by decide +kernel
theorem dX5_isPromised_68 : decode cX5_isPromised 68 = .ok (.iconst 1, 1) := by decide +kernel
theorem dX5_isPromised_69 : decode cX5_isPromised 69 = .ok (.goto 4, 3) := by decide +kernel
theorem dX5_isPromised_72 : decode cX5_isPromised 72 = .ok (.iconst 0, 1) := by decide +kernel
theorem dX5_isPromised_73 : decode cX5_isPromised 73 = .ok (.istore_n 3, 1) := by decide +kernel
theorem dX5_isPromised_74 : decode cX5_isPromised 74 = .ok (.iinc 4 1, 3) := by decide +kernel
theorem dX5_isPromised_77 : decode cX5_isPromised 77 = .ok (.goto (-72), 3) := by decide +kernel
theorem dX5_isPromised_80 : decode cX5_isPromised 80 = .ok (.iload_n 3, 1) := by decide +kernel
theorem dX5_isPromised_81 : decode cX5_isPromised 81 = .ok (.ireturn, 1) := by decide +kernel
theorem dX5_event_0 : decode cX5_event 0 = .ok (.aload_n 0, 1) := by decide +kernel
theorem dX5_event_1 : decode cX5_event 1 = .ok (.iload_n 1, 1) := by decide +kernel
theorem dX5_event_2 : decode cX5_event 2 = .ok (.invokevirtual 38, 3) := by decide +kernel
theorem dX5_event_5 : decode cX5_event 5 = .ok (.ifCond .ne 6, 3) := by decide +kernel
theorem dX5_event_8 : decode cX5_event 8 = .ok (.ldc 42, 2) := by decide +kernel
theorem dX5_event_10 : decode cX5_event 10 = .ok (.ireturn, 1) := by decide +kernel
theorem dX5_event_11 : decode cX5_event 11 = .ok (.iload_n 2, 1) := by decide +kernel
theorem dX5_event_12 : decode cX5_event 12 = .ok (.i2l, 1) := by decide +kernel
theorem dX5_event_13 : decode cX5_event 13 = .ok (.lconst 0, 1) := by decide +kernel
theorem dX5_event_14 : decode cX5_event 14 = .ok (.ldc2_w 50, 3) := by decide +kernel
theorem dX5_event_17 : decode cX5_event 17 = .ok (.invokestatic 23, 3) := by decide +kernel
theorem dX5_event_20 : decode cX5_event 20 = .ok (.ifCond .eq 15, 3) := by decide +kernel
theorem dX5_event_23 : decode cX5_event 23 = .ok (.iload_n 3, 1) := by decide +kernel
theorem dX5_event_24 : decode cX5_event 24 = .ok (.i2l, 1) := by decide +kernel
theorem dX5_event_25 : decode cX5_event 25 = .ok (.lconst 0, 1) := by decide +kernel
theorem dX5_event_26 : decode cX5_event 26 = .ok (.ldc2_w 43, 3) := by decide +kernel
theorem dX5_event_29 : decode cX5_event 29 = .ok (.invokestatic 23, 3) := by decide +kernel
theorem dX5_event_32 : decode cX5_event 32 = .ok (.ifCond .ne 6, 3) := by decide +kernel
theorem dX5_event_35 : decode cX5_event 35 = .ok (.ldc 29, 2) := by decide +kernel
theorem dX5_event_37 : decode cX5_event 37 = .ok (.ireturn, 1) := by decide +kernel
theorem dX5_event_38 : decode cX5_event 38 = .ok (.aload_n 0, 1) := by decide +kernel
theorem dX5_event_39 : decode cX5_event 39 = .ok (.getfield 7, 3) := by decide +kernel
theorem dX5_event_42 : decode cX5_event 42 = .ok (.bipush 10, 2) := by decide +kernel
theorem dX5_event_44 : decode cX5_event 44 = .ok (.iload_n 1, 1) := by decide +kernel
theorem dX5_event_45 : decode cX5_event 45 = .ok (.iadd, 1) := by decide +kernel
theorem dX5_event_46 : decode cX5_event 46 = .ok (.iaload, 1) := by decide +kernel
theorem dX5_event_47 : decode cX5_event 47 = .ok (.ifCond .le 16, 3) := by decide +kernel
theorem dX5_event_50 : decode cX5_event 50 = .ok (.aload_n 0, 1) := by decide +kernel
theorem dX5_event_51 : decode cX5_event 51 = .ok (.getfield 7, 3) := by decide +kernel
theorem dX5_event_54 : decode cX5_event 54 = .ok (.bipush 22, 2) := by decide +kernel
theorem dX5_event_56 : decode cX5_event 56 = .ok (.iload_n 1, 1) := by decide +kernel
theorem dX5_event_57 : decode cX5_event 57 = .ok (.iadd, 1) := by decide +kernel
theorem dX5_event_58 : decode cX5_event 58 = .ok (.iaload, 1) := by decide +kernel
theorem dX5_event_59 : decode cX5_event 59 = .ok (.iload_n 2, 1) := by decide +kernel
theorem dX5_event_60 : decode cX5_event 60 = .ok (.if_icmp .ge 12, 3) := by decide +kernel
theorem dX5_event_63 : decode cX5_event 63 = .ok (.aload_n 0, 1) := by decide +kernel
theorem dX5_event_64 : decode cX5_event 64 = .ok (.iload_n 1, 1) := by decide +kernel
theorem dX5_event_65 : decode cX5_event 65 = .ok (.iload_n 2, 1) := by decide +kernel
theorem dX5_event_66 : decode cX5_event 66 = .ok (.invokevirtual 52, 3) := by decide +kernel
theorem dX5_event_69 : decode cX5_event 69 = .ok (.ifCond .eq 6, 3) := by decide +kernel
theorem dX5_event_72 : decode cX5_event 72 = .ok (.ldc 48, 2) := by decide +kernel
theorem dX5_event_74 : decode cX5_event 74 = .ok (.ireturn, 1) := by decide +kernel
theorem dX5_event_75 : decode cX5_event 75 = .ok (.aload_n 0, 1) := by decide +kernel
theorem dX5_event_76 : decode cX5_event 76 = .ok (.getfield 7, 3) := by decide +kernel
theorem dX5_event_79 : decode cX5_event 79 = .ok (.bipush 7, 2) := by decide +kernel
theorem dX5_event_81 : decode cX5_event 81 = .ok (.iaload, 1) := by decide +kernel
theorem dX5_event_82 : decode cX5_event 82 = .ok (.bipush 30, 2) := by decide +kernel
theorem dX5_event_84 : decode cX5_event 84 = .ok (.if_icmp .ne 6, 3) := by decide +kernel
theorem dX5_event_87 : decode cX5_event 87 = .ok (.ldc 49, 2) := by decide +kernel
theorem dX5_event_89 : decode cX5_event 89 = .ok (.ireturn, 1) := by decide +kernel
theorem dX5_event_90 : decode cX5_event 90 = .ok (.aload_n 0, 1) := by decide +kernel
theorem dX5_event_91 : decode cX5_event 91 = .ok (.iconst 0, 1) := by decide +kernel
theorem dX5_event_92 : decode cX5_event 92 = .ok (.iload_n 1, 1) := by decide +kernel
theorem dX5_event_93 : decode cX5_event 93 = .ok (.iload_n 2, 1) := by decide +kernel
theorem dX5_event_94 : decode cX5_event 94 = .ok (.iconst (-1), 1) := by decide +kernel
theorem dX5_event_95 : decode cX5_event 95 = .ok (.iload_n 3, 1) := by decide +kernel
theorem dX5_event_96 : decode cX5_event 96 = .ok (.invokevirtual 56, 3) := by decide +kernel
theorem dX5_event_99 : decode cX5_event 99 = .ok (.aload_n 0, 1) := by decide +kernel
theorem dX5_event_100 : decode cX5_event 100 = .ok (.getfield 7, 3) := by decide +kernel
theorem dX5_event_103 : decode cX5_event 103 = .ok (.bipush 7, 2) := by decide +kernel
theorem dX5_event_105 : decode cX5_event 105 = .ok (.dup2, 1) := by decide +kernel
theorem dX5_event_106 : decode cX5_event 106 = .ok (.iaload, 1) := by decide +kernel
theorem dX5_event_107 : decode cX5_event 107 = .ok (.iconst 1, 1) := by decide +kernel
theorem dX5_event_108 : decode cX5_event 108 = .ok (.iadd, 1) := by decide +kernel
theorem dX5_event_109 : decode cX5_event 109 = .ok (.iastore, 1) := by decide +kernel
theorem dX5_event_110 : decode cX5_event 110 = .ok (.aload_n 0, 1) := by decide +kernel
theorem dX5_event_111 : decode cX5_event 111 = .ok (.iconst 0, 1) := by decide +kernel
theorem dX5_event_112 : decode cX5_event 112 = .ok (.iload_n 1, 1) := by decide +kernel
theorem dX5_event_113 : decode cX5_event 113 = .ok (.invokevirtual 60, 3) := by decide +kernel
theorem dX5_event_116 : decode cX5_event 116 = .ok (.ireturn, 1) := by decide +kernel
theorem dX5_form_0 : decode cX5_form 0 = .ok (.iload_n 1, 1) := by decide +kernel
theorem dX5_form_1 : decode cX5_form 1 = .ok (.i2l, 1) := by decide +kernel
theorem dX5_form_2 : decode cX5_form 2 = .ok (.lconst 0, 1) := by decide +kernel
theorem dX5_form_3 : decode cX5_form 3 = .ok (.ldc2_w 63, 3) := by decide +kernel
theorem dX5_form_6 : decode cX5_form 6 = .ok (.invokestatic 23, 3) := by decide +kernel
theorem dX5_form_9 : decode cX5_form 9 = .ok (.ifCond .ne 6, 3) := by decide +kernel
theorem dX5_form_12 : decode cX5_form 12 = .ok (.ldc 29, 2) := by decide +kernel
theorem dX5_form_14 : decode cX5_form 14 = .ok (.ireturn, 1) := by decide +kernel
theorem dX5_form_15 : decode cX5_form 15 = .ok (.aload_n 0, 1) := by decide +kernel
theorem dX5_form_16 : decode cX5_form 16 = .ok (.getfield 7, 3) := by decide +kernel
theorem dX5_form_19 : decode cX5_form 19 = .ok (.iconst 2, 1) := by decide +kernel
theorem dX5_form_20 : decode cX5_form 20 = .ok (.iaload, 1) := by decide +kernel
theorem dX5_form_21 : decode cX5_form 21 = .ok (.istore_n 2, 1) := by decide +kernel
theorem dX5_form_22 : decode cX5_form 22 = .ok (.aload_n 0, 1) := by decide +kernel
theorem dX5_form_23 : decode cX5_form 23 = .ok (.getfield 7, 3) := by decide +kernel
theorem dX5_form_26 : decode cX5_form 26 = .ok (.iconst 2, 1) := by decide +kernel
theorem dX5_form_27 : decode cX5_form 27 = .ok (.iload_n 1, 1) := by decide +kernel
theorem dX5_form_28 : decode cX5_form 28 = .ok (.iastore, 1) := by decide +kernel
theorem dX5_form_29 : decode cX5_form 29 = .ok (.iload_n 2, 1) := by decide +kernel
theorem dX5_form_30 : decode cX5_form 30 = .ok (.ireturn, 1) := by decide +kernel
theorem dX5_draw_0 : decode cX5_draw 0 = .ok (.aload_n 0, 1) := by decide +kernel
theorem dX5_draw_1 : decode cX5_draw 1 = .ok (.aload_n 0, 1) := by decide +kernel
theorem dX5_draw_2 : decode cX5_draw 2 = .ok (.getfield 65, 3) := by decide +kernel
theorem dX5_draw_5 : decode cX5_draw 5 = .ok (.ldc2_w 69, 3) := by decide +kernel
theorem dX5_draw_8 : decode cX5_draw 8 = .ok (.lmul, 1) := by decide +kernel
theorem dX5_draw_9 : decode cX5_draw 9 = .ok (.ldc2_w 71, 3) := by decide +kernel
theorem dX5_draw_12 : decode cX5_draw 12 = .ok (.lrem, 1) := by decide +kernel
theorem dX5_draw_13 : decode cX5_draw 13 = .ok (.putfield 65, 3) := by decide +kernel
theorem dX5_draw_16 : decode cX5_draw 16 = .ok (.aload_n 0, 1) := by decide +kernel
theorem dX5_draw_17 : decode cX5_draw 17 = .ok (.getfield 65, 3) := by decide +kernel
theorem dX5_draw_20 : decode cX5_draw 20 = .ok (.iload_n 1, 1) := by decide +kernel
theorem dX5_draw_21 : decode cX5_draw 21 = .ok (.i2l, 1) := by decide +kernel
theorem dX5_draw_22 : decode cX5_draw 22 = .ok (.lrem, 1) := by decide +kernel
theorem dX5_draw_23 : decode cX5_draw 23 = .ok (.l2i, 1) := by decide +kernel
theorem dX5_draw_24 : decode cX5_draw 24 = .ok (.ireturn, 1) := by decide +kernel
theorem dX5_drift_0 : decode cX5_drift 0 = .ok (.iload_n 1, 1) := by decide +kernel
theorem dX5_drift_1 : decode cX5_drift 1 = .ok (.i2l, 1) := by decide +kernel
theorem dX5_drift_2 : decode cX5_drift 2 = .ok (.lconst 1, 1) := by decide +kernel
theorem dX5_drift_3 : decode cX5_drift 3 = .ok (.ldc2_w 73, 3) := by decide +kernel
theorem dX5_drift_6 : decode cX5_drift 6 = .ok (.invokestatic 23, 3) := by decide +kernel
theorem dX5_drift_9 : decode cX5_drift 9 = .ok (.ifCond .eq 15, 3) := by decide +kernel
theorem dX5_drift_12 : decode cX5_drift 12 = .ok (.iload_n 2, 1) := by decide +kernel
theorem dX5_drift_13 : decode cX5_drift 13 = .ok (.i2l, 1) := by decide +kernel
theorem dX5_drift_14 : decode cX5_drift 14 = .ok (.lconst 1, 1) := by decide +kernel
theorem dX5_drift_15 : decode cX5_drift 15 = .ok (.ldc2_w 75, 3) := by decide +kernel
theorem dX5_drift_18 : decode cX5_drift 18 = .ok (.invokestatic 23, 3) := by decide +kernel
theorem dX5_drift_21 : decode cX5_drift 21 = .ok (.ifCond .ne 6, 3) := by decide +kernel
theorem dX5_drift_24 : decode cX5_drift 24 = .ok (.ldc 29, 2) := by decide +kernel
theorem dX5_drift_26 : decode cX5_drift 26 = .ok (.ireturn, 1) := by decide +kernel
theorem dX5_drift_27 : decode cX5_drift 27 = .ok (.aload_n 0, 1) := by decide +kernel
theorem dX5_drift_28 : decode cX5_drift 28 = .ok (.getfield 7, 3) := by decide +kernel
theorem dX5_drift_31 : decode cX5_drift 31 = .ok (.iconst 0, 1) := by decide +kernel
theorem dX5_drift_32 : decode cX5_drift 32 = .ok (.iaload, 1) := by decide +kernel
theorem dX5_drift_33 : decode cX5_drift 33 = .ok (.ifCond .ne 6, 3) := by decide +kernel
theorem dX5_drift_36 : decode cX5_drift 36 = .ok (.ldc 48, 2) := by decide +kernel
theorem dX5_drift_38 : decode cX5_drift 38 = .ok (.ireturn, 1) := by decide +kernel
theorem dX5_drift_39 : decode cX5_drift 39 = .ok (.aload_n 0, 1) := by decide +kernel
theorem dX5_drift_40 : decode cX5_drift 40 = .ok (.iload_n 2, 1) := by decide +kernel
theorem dX5_drift_41 : decode cX5_drift 41 = .ok (.i2l, 1) := by decide +kernel
theorem dX5_drift_42 : decode cX5_drift 42 = .ok (.putfield 65, 3) := by decide +kernel
theorem dX5_drift_45 : decode cX5_drift 45 = .ok (.iconst 0, 1) := by decide +kernel
theorem dX5_drift_46 : decode cX5_drift 46 = .ok (.istore_n 3, 1) := by decide +kernel
theorem dX5_drift_47 : decode cX5_drift 47 = .ok (.iconst 0, 1) := by decide +kernel
theorem dX5_drift_48 : decode cX5_drift 48 = .ok (.istore 4, 2) := by decide +kernel
theorem dX5_drift_50 : decode cX5_drift 50 = .ok (.iload 4, 2) := by decide +kernel
theorem dX5_drift_52 : decode cX5_drift 52 = .ok (.iload_n 1, 1) := by decide +kernel
theorem dX5_drift_53 : decode cX5_drift 53 = .ok (.if_icmp .ge 71, 3) := by decide +kernel
theorem dX5_drift_56 : decode cX5_drift 56 = .ok (.aload_n 0, 1) := by decide +kernel
theorem dX5_drift_57 : decode cX5_drift 57 = .ok (.aload_n 0, 1) := by decide +kernel
theorem dX5_drift_58 : decode cX5_drift 58 = .ok (.getfield 7, 3) := by decide +kernel
theorem dX5_drift_61 : decode cX5_drift 61 = .ok (.iconst 0, 1) := by decide +kernel
theorem dX5_drift_62 : decode cX5_drift 62 = .ok (.iaload, 1) := by decide +kernel
theorem dX5_drift_63 : decode cX5_drift 63 = .ok (.invokevirtual 77, 3) := by decide +kernel
theorem dX5_drift_66 : decode cX5_drift 66 = .ok (.istore 5, 2) := by decide +kernel
theorem dX5_drift_68 : decode cX5_drift 68 = .ok (.aload_n 0, 1) := by decide +kernel
theorem dX5_drift_69 : decode cX5_drift 69 = .ok (.getfield 7, 3) := by decide +kernel
theorem dX5_drift_72 : decode cX5_drift 72 = .ok (.bipush 22, 2) := by decide +kernel
theorem dX5_drift_74 : decode cX5_drift 74 = .ok (.iload 5, 2) := by decide +kernel
theorem dX5_drift_76 : decode cX5_drift 76 = .ok (.iadd, 1) := by decide +kernel
theorem dX5_drift_77 : decode cX5_drift 77 = .ok (.iaload, 1) := by decide +kernel
theorem dX5_drift_78 : decode cX5_drift 78 = .ok (.iconst 1, 1) := by decide +kernel
theorem dX5_drift_79 : decode cX5_drift 79 = .ok (.iadd, 1) := by decide +kernel
theorem dX5_drift_80 : decode cX5_drift 80 = .ok (.aload_n 0, 1) := by decide +kernel
theorem dX5_drift_81 : decode cX5_drift 81 = .ok (.bipush 50, 2) := by decide +kernel
theorem dX5_drift_83 : decode cX5_drift 83 = .ok (.invokevirtual 77, 3) := by decide +kernel
theorem dX5_drift_86 : decode cX5_drift 86 = .ok (.iadd, 1) := by decide +kernel
theorem dX5_drift_87 : decode cX5_drift 87 = .ok (.istore 6, 2) := by decide +kernel
theorem dX5_drift_89 : decode cX5_drift 89 = .ok (.aload_n 0, 1) := by decide +kernel
theorem dX5_drift_90 : decode cX5_drift 90 = .ok (.bipush 20, 2) := by decide +kernel
theorem dX5_drift_92 : decode cX5_drift 92 = .ok (.invokevirtual 77, 3) := by decide +kernel
theorem dX5_drift_95 : decode cX5_drift 95 = .ok (.istore 7, 2) := by decide +kernel
theorem dX5_drift_97 : decode cX5_drift 97 = .ok (.iload_n 3, 1) := by decide +kernel
theorem dX5_drift_98 : decode cX5_drift 98 = .ok (.aload_n 0, 1) := by decide +kernel
theorem dX5_drift_99 : decode cX5_drift 99 = .ok (.iload 5, 2) := by decide +kernel
theorem dX5_drift_101 : decode cX5_drift 101 = .ok (.iload 6, 2) := by decide +kernel
theorem dX5_drift_103 : decode cX5_drift 103 = .ok (.iload 7, 2) := by decide +kernel
theorem dX5_drift_105 : decode cX5_drift 105 = .ok (.invokevirtual 81, 3) := by decide +kernel
theorem dX5_drift_108 : decode cX5_drift 108 = .ok (.ifCond .le 7, 3) := by decide +kernel
theorem dX5_drift_111 : decode cX5_drift 111 = .ok (.iconst 1, 1) := by decide +kernel
theorem dX5_drift_112 : decode cX5_drift 112 = .ok (.goto 4, 3) := by decide +kernel
theorem dX5_drift_115 : decode cX5_drift 115 = .ok (.iconst 0, 1) := by decide +kernel
theorem dX5_drift_116 : decode cX5_drift 116 = .ok (.iadd, 1) := by decide +kernel
theorem dX5_drift_117 : decode cX5_drift 117 = .ok (.istore_n 3, 1) := by decide +kernel
theorem dX5_drift_118 : decode cX5_drift 118 = .ok (.iinc 4 1, 3) := by decide +kernel
theorem dX5_drift_121 : decode cX5_drift 121 = .ok (.goto (-71), 3) := by decide +kernel
theorem dX5_drift_124 : decode cX5_drift 124 = .ok (.iload_n 3, 1) := by decide +kernel
theorem dX5_drift_125 : decode cX5_drift 125 = .ok (.ireturn, 1) := by decide +kernel
theorem dX5_isAhead_0 : decode cX5_isAhead 0 = .ok (.aload_n 0, 1) := by decide +kernel
theorem dX5_isAhead_1 : decode cX5_isAhead 1 = .ok (.getfield 7, 3) := by decide +kernel
theorem dX5_isAhead_4 : decode cX5_isAhead 4 = .ok (.iload_n 1, 1) := by decide +kernel
theorem dX5_isAhead_5 : decode cX5_isAhead 5 = .ok (.iconst 1, 1) := by decide +kernel
theorem dX5_isAhead_6 : decode cX5_isAhead 6 = .ok (.iadd, 1) := by decide +kernel
theorem dX5_isAhead_7 : decode cX5_isAhead 7 = .ok (.iaload, 1) := by decide +kernel
theorem dX5_isAhead_8 : decode cX5_isAhead 8 = .ok (.aload_n 0, 1) := by decide +kernel
theorem dX5_isAhead_9 : decode cX5_isAhead 9 = .ok (.getfield 7, 3) := by decide +kernel
theorem dX5_isAhead_12 : decode cX5_isAhead 12 = .ok (.iload_n 2, 1) := by decide +kernel
theorem dX5_isAhead_13 : decode cX5_isAhead 13 = .ok (.iconst 1, 1) := by decide +kernel
theorem dX5_isAhead_14 : decode cX5_isAhead 14 = .ok (.iadd, 1) := by decide +kernel
theorem dX5_isAhead_15 : decode cX5_isAhead 15 = .ok (.iaload, 1) := by decide +kernel
theorem dX5_isAhead_16 : decode cX5_isAhead 16 = .ok (.if_icmp .eq 28, 3) := by decide +kernel
theorem dX5_isAhead_19 : decode cX5_isAhead 19 = .ok (.aload_n 0, 1) := by decide +kernel
theorem dX5_isAhead_20 : decode cX5_isAhead 20 = .ok (.getfield 7, 3) := by decide +kernel
theorem dX5_isAhead_23 : decode cX5_isAhead 23 = .ok (.iload_n 1, 1) := by decide +kernel
theorem dX5_isAhead_24 : decode cX5_isAhead 24 = .ok (.iconst 1, 1) := by decide +kernel
theorem dX5_isAhead_25 : decode cX5_isAhead 25 = .ok (.iadd, 1) := by decide +kernel
theorem dX5_isAhead_26 : decode cX5_isAhead 26 = .ok (.iaload, 1) := by decide +kernel
theorem dX5_isAhead_27 : decode cX5_isAhead 27 = .ok (.aload_n 0, 1) := by decide +kernel
theorem dX5_isAhead_28 : decode cX5_isAhead 28 = .ok (.getfield 7, 3) := by decide +kernel
theorem dX5_isAhead_31 : decode cX5_isAhead 31 = .ok (.iload_n 2, 1) := by decide +kernel
theorem dX5_isAhead_32 : decode cX5_isAhead 32 = .ok (.iconst 1, 1) := by decide +kernel
theorem dX5_isAhead_33 : decode cX5_isAhead 33 = .ok (.iadd, 1) := by decide +kernel
theorem dX5_isAhead_34 : decode cX5_isAhead 34 = .ok (.iaload, 1) := by decide +kernel
theorem dX5_isAhead_35 : decode cX5_isAhead 35 = .ok (.if_icmp .ge 7, 3) := by decide +kernel
theorem dX5_isAhead_38 : decode cX5_isAhead 38 = .ok (.iconst 1, 1) := by decide +kernel
theorem dX5_isAhead_39 : decode cX5_isAhead 39 = .ok (.goto 4, 3) := by decide +kernel
theorem dX5_isAhead_42 : decode cX5_isAhead 42 = .ok (.iconst 0, 1) := by decide +kernel
theorem dX5_isAhead_43 : decode cX5_isAhead 43 = .ok (.ireturn, 1) := by decide +kernel
theorem dX5_isAhead_44 : decode cX5_isAhead 44 = .ok (.aload_n 0, 1) := by decide +kernel
theorem dX5_isAhead_45 : decode cX5_isAhead 45 = .ok (.getfield 7, 3) := by decide +kernel
theorem dX5_isAhead_48 : decode cX5_isAhead 48 = .ok (.iload_n 1, 1) := by decide +kernel
theorem dX5_isAhead_49 : decode cX5_isAhead 49 = .ok (.iconst 2, 1) := by decide +kernel
theorem dX5_isAhead_50 : decode cX5_isAhead 50 = .ok (.iadd, 1) := by decide +kernel
theorem dX5_isAhead_51 : decode cX5_isAhead 51 = .ok (.iaload, 1) := by decide +kernel
theorem dX5_isAhead_52 : decode cX5_isAhead 52 = .ok (.aload_n 0, 1) := by decide +kernel
theorem dX5_isAhead_53 : decode cX5_isAhead 53 = .ok (.getfield 7, 3) := by decide +kernel
theorem dX5_isAhead_56 : decode cX5_isAhead 56 = .ok (.iload_n 2, 1) := by decide +kernel
theorem dX5_isAhead_57 : decode cX5_isAhead 57 = .ok (.iconst 2, 1) := by decide +kernel
theorem dX5_isAhead_58 : decode cX5_isAhead 58 = .ok (.iadd, 1) := by decide +kernel
theorem dX5_isAhead_59 : decode cX5_isAhead 59 = .ok (.iaload, 1) := by decide +kernel
theorem dX5_isAhead_60 : decode cX5_isAhead 60 = .ok (.if_icmp .eq 30, 3) := by decide +kernel
theorem dX5_isAhead_63 : decode cX5_isAhead 63 = .ok (.aload_n 0, 1) := by decide +kernel
theorem dX5_isAhead_64 : decode cX5_isAhead 64 = .ok (.getfield 7, 3) := by decide +kernel
theorem dX5_isAhead_67 : decode cX5_isAhead 67 = .ok (.iload_n 1, 1) := by decide +kernel
theorem dX5_isAhead_68 : decode cX5_isAhead 68 = .ok (.iconst 2, 1) := by decide +kernel
theorem dX5_isAhead_69 : decode cX5_isAhead 69 = .ok (.iadd, 1) := by decide +kernel
theorem dX5_isAhead_70 : decode cX5_isAhead 70 = .ok (.iaload, 1) := by decide +kernel
theorem dX5_isAhead_71 : decode cX5_isAhead 71 = .ok (.aload_n 0, 1) := by decide +kernel
theorem dX5_isAhead_72 : decode cX5_isAhead 72 = .ok (.getfield 7, 3) := by decide +kernel
theorem dX5_isAhead_75 : decode cX5_isAhead 75 = .ok (.iload_n 2, 1) := by decide +kernel
theorem dX5_isAhead_76 : decode cX5_isAhead 76 = .ok (.iconst 2, 1) := by decide +kernel
theorem dX5_isAhead_77 : decode cX5_isAhead 77 = .ok (.iadd, 1) := by decide +kernel
theorem dX5_isAhead_78 : decode cX5_isAhead 78 = .ok (.iaload, 1) := by decide +kernel
theorem dX5_isAhead_79 : decode cX5_isAhead 79 = .ok (.if_icmp .ge 7, 3) := by decide +kernel
theorem dX5_isAhead_82 : decode cX5_isAhead 82 = .ok (.iconst 1, 1) := by decide +kernel
theorem dX5_isAhead_83 : decode cX5_isAhead 83 = .ok (.goto 31, 3) := by decide +kernel
theorem dX5_isAhead_86 : decode cX5_isAhead 86 = .ok (.iconst 0, 1) := by decide +kernel
theorem dX5_isAhead_87 : decode cX5_isAhead 87 = .ok (.goto 27, 3) := by decide +kernel
theorem dX5_isAhead_90 : decode cX5_isAhead 90 = .ok (.aload_n 0, 1) := by decide +kernel
theorem dX5_isAhead_91 : decode cX5_isAhead 91 = .ok (.getfield 7, 3) := by decide +kernel
theorem dX5_isAhead_94 : decode cX5_isAhead 94 = .ok (.iload_n 1, 1) := by decide +kernel
theorem dX5_isAhead_95 : decode cX5_isAhead 95 = .ok (.iconst 4, 1) := by decide +kernel
theorem dX5_isAhead_96 : decode cX5_isAhead 96 = .ok (.iadd, 1) := by decide +kernel
theorem dX5_isAhead_97 : decode cX5_isAhead 97 = .ok (.iaload, 1) := by decide +kernel
theorem dX5_isAhead_98 : decode cX5_isAhead 98 = .ok (.aload_n 0, 1) := by decide +kernel
theorem dX5_isAhead_99 : decode cX5_isAhead 99 = .ok (.getfield 7, 3) := by decide +kernel
theorem dX5_isAhead_102 : decode cX5_isAhead 102 = .ok (.iload_n 2, 1) := by decide +kernel
theorem dX5_isAhead_103 : decode cX5_isAhead 103 = .ok (.iconst 4, 1) := by decide +kernel
theorem dX5_isAhead_104 : decode cX5_isAhead 104 = .ok (.iadd, 1) := by decide +kernel
theorem dX5_isAhead_105 : decode cX5_isAhead 105 = .ok (.iaload, 1) := by decide +kernel
theorem dX5_isAhead_106 : decode cX5_isAhead 106 = .ok (.if_icmp .ge 7, 3) := by decide +kernel
theorem dX5_isAhead_109 : decode cX5_isAhead 109 = .ok (.iconst 1, 1) := by decide +kernel
theorem dX5_isAhead_110 : decode cX5_isAhead 110 = .ok (.goto 4, 3) := by decide +kernel
theorem dX5_isAhead_113 : decode cX5_isAhead 113 = .ok (.iconst 0, 1) := by decide +kernel
theorem dX5_isAhead_114 : decode cX5_isAhead 114 = .ok (.ireturn, 1) := by decide +kernel
theorem dX5_firstOf_0 : decode cX5_firstOf 0 = .ok (.iconst (-1), 1) := by decide +kernel
theorem dX5_firstOf_1 : decode cX5_firstOf 1 = .ok (.istore_n 3, 1) := by decide +kernel
theorem dX5_firstOf_2 : decode cX5_firstOf 2 = .ok (.iconst 0, 1) := by decide +kernel
theorem dX5_firstOf_3 : decode cX5_firstOf 3 = .ok (.istore 4, 2) := by decide +kernel
theorem dX5_firstOf_5 : decode cX5_firstOf 5 = .ok (.iload 4, 2) := by decide +kernel
theorem dX5_firstOf_7 : decode cX5_firstOf 7 = .ok (.aload_n 0, 1) := by decide +kernel
theorem dX5_firstOf_8 : decode cX5_firstOf 8 = .ok (.getfield 7, 3) := by decide +kernel
theorem dX5_firstOf_11 : decode cX5_firstOf 11 = .ok (.iload_n 1, 1) := by decide +kernel
theorem dX5_firstOf_12 : decode cX5_firstOf 12 = .ok (.bipush 9, 2) := by decide +kernel
theorem dX5_firstOf_14 : decode cX5_firstOf 14 = .ok (.iadd, 1) := by decide +kernel
theorem dX5_firstOf_15 : decode cX5_firstOf 15 = .ok (.iaload, 1) := by decide +kernel
theorem dX5_firstOf_16 : decode cX5_firstOf 16 = .ok (.if_icmp .ge 55, 3) := by decide +kernel
theorem dX5_firstOf_19 : decode cX5_firstOf 19 = .ok (.iload_n 1, 1) := by decide +kernel
theorem dX5_firstOf_20 : decode cX5_firstOf 20 = .ok (.bipush 112, 2) := by decide +kernel
theorem dX5_firstOf_22 : decode cX5_firstOf 22 = .ok (.iadd, 1) := by decide +kernel
theorem dX5_firstOf_23 : decode cX5_firstOf 23 = .ok (.iconst 5, 1) := by decide +kernel
theorem dX5_firstOf_24 : decode cX5_firstOf 24 = .ok (.iload 4, 2) := by decide +kernel
theorem dX5_firstOf_26 : decode cX5_firstOf 26 = .ok (.imul, 1) := by decide +kernel
theorem dX5_firstOf_27 : decode cX5_firstOf 27 = .ok (.iadd, 1) := by decide +kernel
theorem dX5_firstOf_28 : decode cX5_firstOf 28 = .ok (.istore 5, 2) := by decide +kernel
theorem dX5_firstOf_30 : decode cX5_firstOf 30 = .ok (.aload_n 0, 1) := by decide +kernel
theorem dX5_firstOf_31 : decode cX5_firstOf 31 = .ok (.getfield 7, 3) := by decide +kernel
theorem dX5_firstOf_34 : decode cX5_firstOf 34 = .ok (.iload 5, 2) := by decide +kernel
theorem dX5_firstOf_36 : decode cX5_firstOf 36 = .ok (.iconst 0, 1) := by decide +kernel
theorem dX5_firstOf_37 : decode cX5_firstOf 37 = .ok (.iadd, 1) := by decide +kernel
theorem dX5_firstOf_38 : decode cX5_firstOf 38 = .ok (.iaload, 1) := by decide +kernel
theorem dX5_firstOf_39 : decode cX5_firstOf 39 = .ok (.iload_n 2, 1) := by decide +kernel
theorem dX5_firstOf_40 : decode cX5_firstOf 40 = .ok (.if_icmp .ne 23, 3) := by decide +kernel
theorem dX5_firstOf_43 : decode cX5_firstOf 43 = .ok (.iload_n 3, 1) := by decide +kernel
theorem dX5_firstOf_44 : decode cX5_firstOf 44 = .ok (.iconst (-1), 1) := by decide +kernel
theorem dX5_firstOf_45 : decode cX5_firstOf 45 = .ok (.if_icmp .eq 13, 3) := by decide +kernel
theorem dX5_firstOf_48 : decode cX5_firstOf 48 = .ok (.aload_n 0, 1) := by decide +kernel
theorem dX5_firstOf_49 : decode cX5_firstOf 49 = .ok (.iload 5, 2) := by decide +kernel
theorem dX5_firstOf_51 : decode cX5_firstOf 51 = .ok (.iload_n 3, 1) := by decide +kernel
theorem dX5_firstOf_52 : decode cX5_firstOf 52 = .ok (.invokevirtual 85, 3) := by decide +kernel
theorem dX5_firstOf_55 : decode cX5_firstOf 55 = .ok (.ifCond .eq 8, 3) := by decide +kernel
theorem dX5_firstOf_58 : decode cX5_firstOf 58 = .ok (.iload 5, 2) := by decide +kernel
theorem dX5_firstOf_60 : decode cX5_firstOf 60 = .ok (.goto 4, 3) := by decide +kernel
theorem dX5_firstOf_63 : decode cX5_firstOf 63 = .ok (.iload_n 3, 1) := by decide +kernel
theorem dX5_firstOf_64 : decode cX5_firstOf 64 = .ok (.istore_n 3, 1) := by decide +kernel
theorem dX5_firstOf_65 : decode cX5_firstOf 65 = .ok (.iinc 4 1, 3) := by decide +kernel
theorem dX5_firstOf_68 : decode cX5_firstOf 68 = .ok (.goto (-63), 3) := by decide +kernel
theorem dX5_firstOf_71 : decode cX5_firstOf 71 = .ok (.iload_n 3, 1) := by decide +kernel
theorem dX5_firstOf_72 : decode cX5_firstOf 72 = .ok (.ireturn, 1) := by decide +kernel
theorem dX5_firstTime_0 : decode cX5_firstTime 0 = .ok (.aload_n 0, 1) := by decide +kernel
theorem dX5_firstTime_1 : decode cX5_firstTime 1 = .ok (.iload_n 1, 1) := by decide +kernel
theorem dX5_firstTime_2 : decode cX5_firstTime 2 = .ok (.iload_n 2, 1) := by decide +kernel
theorem dX5_firstTime_3 : decode cX5_firstTime 3 = .ok (.invokevirtual 88, 3) := by decide +kernel
theorem dX5_firstTime_6 : decode cX5_firstTime 6 = .ok (.istore_n 3, 1) := by decide +kernel
theorem dX5_firstTime_7 : decode cX5_firstTime 7 = .ok (.iload_n 3, 1) := by decide +kernel
theorem dX5_firstTime_8 : decode cX5_firstTime 8 = .ok (.iconst (-1), 1) := by decide +kernel
theorem dX5_firstTime_9 : decode cX5_firstTime 9 = .ok (.if_icmp .ne 8, 3) := by decide +kernel
theorem dX5_firstTime_12 : decode cX5_firstTime 12 = .ok (.ldc 91, 2) := by decide +kernel
theorem dX5_firstTime_14 : decode cX5_firstTime 14 = .ok (.goto 11, 3) := by decide +kernel
theorem dX5_firstTime_17 : decode cX5_firstTime 17 = .ok (.aload_n 0, 1) := by decide +kernel
theorem dX5_firstTime_18 : decode cX5_firstTime 18 = .ok (.getfield 7, 3) := by decide +kernel
theorem dX5_firstTime_21 : decode cX5_firstTime 21 = .ok (.iload_n 3, 1) := by decide +kernel
theorem dX5_firstTime_22 : decode cX5_firstTime 22 = .ok (.iconst 1, 1) := by decide +kernel
theorem dX5_firstTime_23 : decode cX5_firstTime 23 = .ok (.iadd, 1) := by decide +kernel
theorem dX5_firstTime_24 : decode cX5_firstTime 24 = .ok (.iaload, 1) := by decide +kernel
theorem dX5_firstTime_25 : decode cX5_firstTime 25 = .ok (.ireturn, 1) := by decide +kernel
theorem dX5_leastTo_0 : decode cX5_leastTo 0 = .ok (.iconst (-1), 1) := by decide +kernel
theorem dX5_leastTo_1 : decode cX5_leastTo 1 = .ok (.istore_n 2, 1) := by decide +kernel
theorem dX5_leastTo_2 : decode cX5_leastTo 2 = .ok (.iconst 0, 1) := by decide +kernel
theorem dX5_leastTo_3 : decode cX5_leastTo 3 = .ok (.istore_n 3, 1) := by decide +kernel
theorem dX5_leastTo_4 : decode cX5_leastTo 4 = .ok (.iload_n 3, 1) := by decide +kernel
theorem dX5_leastTo_5 : decode cX5_leastTo 5 = .ok (.aload_n 0, 1) := by decide +kernel
theorem dX5_leastTo_6 : decode cX5_leastTo 6 = .ok (.getfield 7, 3) := by decide +kernel
theorem dX5_leastTo_9 : decode cX5_leastTo 9 = .ok (.iconst 1, 1) := by decide +kernel
theorem dX5_leastTo_10 : decode cX5_leastTo 10 = .ok (.iaload, 1) := by decide +kernel
theorem dX5_leastTo_11 : decode cX5_leastTo 11 = .ok (.if_icmp .ge 63, 3) := by decide +kernel
theorem dX5_leastTo_14 : decode cX5_leastTo 14 = .ok (.aload_n 0, 1) := by decide +kernel
theorem dX5_leastTo_15 : decode cX5_leastTo 15 = .ok (.getfield 7, 3) := by decide +kernel
theorem dX5_leastTo_18 : decode cX5_leastTo 18 = .ok (.iconst 0, 1) := by decide +kernel
theorem dX5_leastTo_19 : decode cX5_leastTo 19 = .ok (.iload_n 3, 1) := by decide +kernel
theorem dX5_leastTo_20 : decode cX5_leastTo 20 = .ok (.invokestatic 34, 3) := by decide +kernel
theorem dX5_leastTo_23 : decode cX5_leastTo 23 = .ok (.iconst 1, 1) := by decide +kernel
theorem dX5_leastTo_24 : decode cX5_leastTo 24 = .ok (.iadd, 1) := by decide +kernel
theorem dX5_leastTo_25 : decode cX5_leastTo 25 = .ok (.iaload, 1) := by decide +kernel
theorem dX5_leastTo_26 : decode cX5_leastTo 26 = .ok (.iload_n 1, 1) := by decide +kernel
theorem dX5_leastTo_27 : decode cX5_leastTo 27 = .ok (.if_icmp .ne 39, 3) := by decide +kernel
theorem dX5_leastTo_30 : decode cX5_leastTo 30 = .ok (.iload_n 2, 1) := by decide +kernel
theorem dX5_leastTo_31 : decode cX5_leastTo 31 = .ok (.iconst (-1), 1) := by decide +kernel
theorem dX5_leastTo_32 : decode cX5_leastTo 32 = .ok (.if_icmp .eq 30, 3) := by decide +kernel
theorem dX5_leastTo_35 : decode cX5_leastTo 35 = .ok (.aload_n 0, 1) := by decide +kernel
theorem dX5_leastTo_36 : decode cX5_leastTo 36 = .ok (.getfield 7, 3) := by decide +kernel
theorem dX5_leastTo_39 : decode cX5_leastTo 39 = .ok (.iconst 0, 1) := by decide +kernel
theorem dX5_leastTo_40 : decode cX5_leastTo 40 = .ok (.iload_n 3, 1) := by decide +kernel
theorem dX5_leastTo_41 : decode cX5_leastTo 41 = .ok (.invokestatic 34, 3) := by decide +kernel
theorem dX5_leastTo_44 : decode cX5_leastTo 44 = .ok (.iconst 4, 1) := by decide +kernel
theorem dX5_leastTo_45 : decode cX5_leastTo 45 = .ok (.iadd, 1) := by decide +kernel
theorem dX5_leastTo_46 : decode cX5_leastTo 46 = .ok (.iaload, 1) := by decide +kernel
theorem dX5_leastTo_47 : decode cX5_leastTo 47 = .ok (.aload_n 0, 1) := by decide +kernel
theorem dX5_leastTo_48 : decode cX5_leastTo 48 = .ok (.getfield 7, 3) := by decide +kernel
theorem dX5_leastTo_51 : decode cX5_leastTo 51 = .ok (.iconst 0, 1) := by decide +kernel
theorem dX5_leastTo_52 : decode cX5_leastTo 52 = .ok (.iload_n 2, 1) := by decide +kernel
theorem dX5_leastTo_53 : decode cX5_leastTo 53 = .ok (.invokestatic 34, 3) := by decide +kernel
theorem dX5_leastTo_56 : decode cX5_leastTo 56 = .ok (.iconst 4, 1) := by decide +kernel
theorem dX5_leastTo_57 : decode cX5_leastTo 57 = .ok (.iadd, 1) := by decide +kernel
theorem dX5_leastTo_58 : decode cX5_leastTo 58 = .ok (.iaload, 1) := by decide +kernel
theorem dX5_leastTo_59 : decode cX5_leastTo 59 = .ok (.if_icmp .ge 7, 3) := by decide +kernel
theorem dX5_leastTo_62 : decode cX5_leastTo 62 = .ok (.iload_n 3, 1) := by decide +kernel
theorem dX5_leastTo_63 : decode cX5_leastTo 63 = .ok (.goto 4, 3) := by decide +kernel
theorem dX5_leastTo_66 : decode cX5_leastTo 66 = .ok (.iload_n 2, 1) := by decide +kernel
theorem dX5_leastTo_67 : decode cX5_leastTo 67 = .ok (.istore_n 2, 1) := by decide +kernel
theorem dX5_leastTo_68 : decode cX5_leastTo 68 = .ok (.iinc 3 1, 3) := by decide +kernel
theorem dX5_leastTo_71 : decode cX5_leastTo 71 = .ok (.goto (-67), 3) := by decide +kernel
theorem dX5_leastTo_74 : decode cX5_leastTo 74 = .ok (.iload_n 2, 1) := by decide +kernel
theorem dX5_leastTo_75 : decode cX5_leastTo 75 = .ok (.ireturn, 1) := by decide +kernel
theorem dX5_safe_0 : decode cX5_safe 0 = .ok (.aload_n 0, 1) := by decide +kernel
theorem dX5_safe_1 : decode cX5_safe 1 = .ok (.iload_n 1, 1) := by decide +kernel
theorem dX5_safe_2 : decode cX5_safe 2 = .ok (.invokevirtual 92, 3) := by decide +kernel
theorem dX5_safe_5 : decode cX5_safe 5 = .ok (.istore_n 2, 1) := by decide +kernel
theorem dX5_safe_6 : decode cX5_safe 6 = .ok (.iload_n 2, 1) := by decide +kernel
theorem dX5_safe_7 : decode cX5_safe 7 = .ok (.iconst (-1), 1) := by decide +kernel
theorem dX5_safe_8 : decode cX5_safe 8 = .ok (.if_icmp .ne 8, 3) := by decide +kernel
theorem dX5_safe_11 : decode cX5_safe 11 = .ok (.ldc 91, 2) := by decide +kernel
theorem dX5_safe_13 : decode cX5_safe 13 = .ok (.goto 15, 3) := by decide +kernel
theorem dX5_safe_16 : decode cX5_safe 16 = .ok (.aload_n 0, 1) := by decide +kernel
theorem dX5_safe_17 : decode cX5_safe 17 = .ok (.getfield 7, 3) := by decide +kernel
theorem dX5_safe_20 : decode cX5_safe 20 = .ok (.iconst 0, 1) := by decide +kernel
theorem dX5_safe_21 : decode cX5_safe 21 = .ok (.iload_n 2, 1) := by decide +kernel
theorem dX5_safe_22 : decode cX5_safe 22 = .ok (.invokestatic 34, 3) := by decide +kernel
theorem dX5_safe_25 : decode cX5_safe 25 = .ok (.iconst 4, 1) := by decide +kernel
theorem dX5_safe_26 : decode cX5_safe 26 = .ok (.iadd, 1) := by decide +kernel
theorem dX5_safe_27 : decode cX5_safe 27 = .ok (.iaload, 1) := by decide +kernel
theorem dX5_safe_28 : decode cX5_safe 28 = .ok (.ireturn, 1) := by decide +kernel
theorem dX5_may_0 : decode cX5_may 0 = .ok (.aload_n 0, 1) := by decide +kernel
theorem dX5_may_1 : decode cX5_may 1 = .ok (.iconst 0, 1) := by decide +kernel
theorem dX5_may_2 : decode cX5_may 2 = .ok (.iload_n 1, 1) := by decide +kernel
theorem dX5_may_3 : decode cX5_may 3 = .ok (.invokevirtual 88, 3) := by decide +kernel
theorem dX5_may_6 : decode cX5_may 6 = .ok (.iconst (-1), 1) := by decide +kernel
theorem dX5_may_7 : decode cX5_may 7 = .ok (.if_icmp .eq 21, 3) := by decide +kernel
theorem dX5_may_10 : decode cX5_may 10 = .ok (.aload_n 0, 1) := by decide +kernel
theorem dX5_may_11 : decode cX5_may 11 = .ok (.iconst 0, 1) := by decide +kernel
theorem dX5_may_12 : decode cX5_may 12 = .ok (.iload_n 1, 1) := by decide +kernel
theorem dX5_may_13 : decode cX5_may 13 = .ok (.invokevirtual 95, 3) := by decide +kernel
theorem dX5_may_16 : decode cX5_may 16 = .ok (.aload_n 0, 1) := by decide +kernel
theorem dX5_may_17 : decode cX5_may 17 = .ok (.iload_n 1, 1) := by decide +kernel
theorem dX5_may_18 : decode cX5_may 18 = .ok (.invokevirtual 98, 3) := by decide +kernel
theorem dX5_may_21 : decode cX5_may 21 = .ok (.if_icmp .ge 7, 3) := by decide +kernel
theorem dX5_may_24 : decode cX5_may 24 = .ok (.iconst 1, 1) := by decide +kernel
theorem dX5_may_25 : decode cX5_may 25 = .ok (.goto 4, 3) := by decide +kernel
theorem dX5_may_28 : decode cX5_may 28 = .ok (.iconst 0, 1) := by decide +kernel
theorem dX5_may_29 : decode cX5_may 29 = .ok (.ireturn, 1) := by decide +kernel
theorem dX5_outOf_0 : decode cX5_outOf 0 = .ok (.iconst 0, 1) := by decide +kernel
theorem dX5_outOf_1 : decode cX5_outOf 1 = .ok (.istore_n 3, 1) := by decide +kernel
theorem dX5_outOf_2 : decode cX5_outOf 2 = .ok (.iconst 0, 1) := by decide +kernel
theorem dX5_outOf_3 : decode cX5_outOf 3 = .ok (.istore 4, 2) := by decide +kernel
theorem dX5_outOf_5 : decode cX5_outOf 5 = .ok (.iload 4, 2) := by decide +kernel
theorem dX5_outOf_7 : decode cX5_outOf 7 = .ok (.aload_n 0, 1) := by decide +kernel
theorem dX5_outOf_8 : decode cX5_outOf 8 = .ok (.getfield 7, 3) := by decide +kernel
theorem dX5_outOf_11 : decode cX5_outOf 11 = .ok (.iload_n 1, 1) := by decide +kernel
theorem dX5_outOf_12 : decode cX5_outOf 12 = .ok (.iconst 1, 1) := by decide +kernel
theorem dX5_outOf_13 : decode cX5_outOf 13 = .ok (.iadd, 1) := by decide +kernel
theorem dX5_outOf_14 : decode cX5_outOf 14 = .ok (.iaload, 1) := by decide +kernel
theorem dX5_outOf_15 : decode cX5_outOf 15 = .ok (.if_icmp .ge 34, 3) := by decide +kernel
theorem dX5_outOf_18 : decode cX5_outOf 18 = .ok (.iload_n 3, 1) := by decide +kernel
theorem dX5_outOf_19 : decode cX5_outOf 19 = .ok (.aload_n 0, 1) := by decide +kernel
theorem dX5_outOf_20 : decode cX5_outOf 20 = .ok (.getfield 7, 3) := by decide +kernel
theorem dX5_outOf_23 : decode cX5_outOf 23 = .ok (.iload_n 1, 1) := by decide +kernel
theorem dX5_outOf_24 : decode cX5_outOf 24 = .ok (.iload 4, 2) := by decide +kernel
theorem dX5_outOf_26 : decode cX5_outOf 26 = .ok (.invokestatic 34, 3) := by decide +kernel
theorem dX5_outOf_29 : decode cX5_outOf 29 = .ok (.iconst 0, 1) := by decide +kernel
theorem dX5_outOf_30 : decode cX5_outOf 30 = .ok (.iadd, 1) := by decide +kernel
theorem dX5_outOf_31 : decode cX5_outOf 31 = .ok (.iaload, 1) := by decide +kernel
theorem dX5_outOf_32 : decode cX5_outOf 32 = .ok (.iload_n 2, 1) := by decide +kernel
theorem dX5_outOf_33 : decode cX5_outOf 33 = .ok (.if_icmp .ne 7, 3) := by decide +kernel
theorem dX5_outOf_36 : decode cX5_outOf 36 = .ok (.iconst 1, 1) := by decide +kernel
theorem dX5_outOf_37 : decode cX5_outOf 37 = .ok (.goto 4, 3) := by decide +kernel
theorem dX5_outOf_40 : decode cX5_outOf 40 = .ok (.iconst 0, 1) := by decide +kernel
theorem dX5_outOf_41 : decode cX5_outOf 41 = .ok (.iadd, 1) := by decide +kernel
theorem dX5_outOf_42 : decode cX5_outOf 42 = .ok (.istore_n 3, 1) := by decide +kernel
theorem dX5_outOf_43 : decode cX5_outOf 43 = .ok (.iinc 4 1, 3) := by decide +kernel
theorem dX5_outOf_46 : decode cX5_outOf 46 = .ok (.goto (-41), 3) := by decide +kernel
theorem dX5_outOf_49 : decode cX5_outOf 49 = .ok (.iload_n 3, 1) := by decide +kernel
theorem dX5_outOf_50 : decode cX5_outOf 50 = .ok (.ireturn, 1) := by decide +kernel
theorem dX5_outAt_0 : decode cX5_outAt 0 = .ok (.iconst (-1), 1) := by decide +kernel
theorem dX5_outAt_1 : decode cX5_outAt 1 = .ok (.istore 4, 2) := by decide +kernel
theorem dX5_outAt_3 : decode cX5_outAt 3 = .ok (.iconst 0, 1) := by decide +kernel
theorem dX5_outAt_4 : decode cX5_outAt 4 = .ok (.istore 5, 2) := by decide +kernel
theorem dX5_outAt_6 : decode cX5_outAt 6 = .ok (.iconst 0, 1) := by decide +kernel
theorem dX5_outAt_7 : decode cX5_outAt 7 = .ok (.istore 6, 2) := by decide +kernel
theorem dX5_outAt_9 : decode cX5_outAt 9 = .ok (.iload 6, 2) := by decide +kernel
theorem dX5_outAt_11 : decode cX5_outAt 11 = .ok (.aload_n 0, 1) := by decide +kernel
theorem dX5_outAt_12 : decode cX5_outAt 12 = .ok (.getfield 7, 3) := by decide +kernel
theorem dX5_outAt_15 : decode cX5_outAt 15 = .ok (.iload_n 1, 1) := by decide +kernel
theorem dX5_outAt_16 : decode cX5_outAt 16 = .ok (.iconst 1, 1) := by decide +kernel
theorem dX5_outAt_17 : decode cX5_outAt 17 = .ok (.iadd, 1) := by decide +kernel
theorem dX5_outAt_18 : decode cX5_outAt 18 = .ok (.iaload, 1) := by decide +kernel
theorem dX5_outAt_19 : decode cX5_outAt 19 = .ok (.if_icmp .ge 44, 3) := by decide +kernel
theorem dX5_outAt_22 : decode cX5_outAt 22 = .ok (.aload_n 0, 1) := by decide +kernel
theorem dX5_outAt_23 : decode cX5_outAt 23 = .ok (.getfield 7, 3) := by decide +kernel
theorem dX5_outAt_26 : decode cX5_outAt 26 = .ok (.iload_n 1, 1) := by decide +kernel
theorem dX5_outAt_27 : decode cX5_outAt 27 = .ok (.iload 6, 2) := by decide +kernel
theorem dX5_outAt_29 : decode cX5_outAt 29 = .ok (.invokestatic 34, 3) := by decide +kernel
theorem dX5_outAt_32 : decode cX5_outAt 32 = .ok (.iconst 0, 1) := by decide +kernel
theorem dX5_outAt_33 : decode cX5_outAt 33 = .ok (.iadd, 1) := by decide +kernel
theorem dX5_outAt_34 : decode cX5_outAt 34 = .ok (.iaload, 1) := by decide +kernel
theorem dX5_outAt_35 : decode cX5_outAt 35 = .ok (.iload_n 2, 1) := by decide +kernel
theorem dX5_outAt_36 : decode cX5_outAt 36 = .ok (.if_icmp .ne 21, 3) := by decide +kernel
theorem dX5_outAt_39 : decode cX5_outAt 39 = .ok (.iload 5, 2) := by decide +kernel
theorem dX5_outAt_41 : decode cX5_outAt 41 = .ok (.iload_n 3, 1) := by decide +kernel
theorem dX5_outAt_42 : decode cX5_outAt 42 = .ok (.if_icmp .ne 8, 3) := by decide +kernel
theorem dX5_outAt_45 : decode cX5_outAt 45 = .ok (.iload 6, 2) := by decide +kernel
theorem dX5_outAt_47 : decode cX5_outAt 47 = .ok (.goto 5, 3) := by decide +kernel
theorem dX5_outAt_50 : decode cX5_outAt 50 = .ok (.iload 4, 2) := by decide +kernel
theorem dX5_outAt_52 : decode cX5_outAt 52 = .ok (.istore 4, 2) := by decide +kernel
theorem dX5_outAt_54 : decode cX5_outAt 54 = .ok (.iinc 5 1, 3) := by decide +kernel
theorem dX5_outAt_57 : decode cX5_outAt 57 = .ok (.iinc 6 1, 3) := by decide +kernel
theorem dX5_outAt_60 : decode cX5_outAt 60 = .ok (.goto (-51), 3) := by decide +kernel
theorem dX5_outAt_63 : decode cX5_outAt 63 = .ok (.iload 4, 2) := by decide +kernel
theorem dX5_outAt_65 : decode cX5_outAt 65 = .ok (.ireturn, 1) := by decide +kernel
theorem dX5_works_0 : decode cX5_works 0 = .ok (.aload_n 0, 1) := by decide +kernel
theorem dX5_works_1 : decode cX5_works 1 = .ok (.getfield 7, 3) := by decide +kernel
theorem dX5_works_4 : decode cX5_works 4 = .ok (.iload_n 2, 1) := by decide +kernel
theorem dX5_works_5 : decode cX5_works 5 = .ok (.iconst 0, 1) := by decide +kernel
theorem dX5_works_6 : decode cX5_works 6 = .ok (.iadd, 1) := by decide +kernel
theorem dX5_works_7 : decode cX5_works 7 = .ok (.iaload, 1) := by decide +kernel
theorem dX5_works_8 : decode cX5_works 8 = .ok (.istore_n 3, 1) := by decide +kernel
theorem dX5_works_9 : decode cX5_works 9 = .ok (.aload_n 0, 1) := by decide +kernel
theorem dX5_works_10 : decode cX5_works 10 = .ok (.getfield 7, 3) := by decide +kernel
theorem dX5_works_13 : decode cX5_works 13 = .ok (.iload_n 2, 1) := by decide +kernel
theorem dX5_works_14 : decode cX5_works 14 = .ok (.iconst 1, 1) := by decide +kernel
theorem dX5_works_15 : decode cX5_works 15 = .ok (.iadd, 1) := by decide +kernel
theorem dX5_works_16 : decode cX5_works 16 = .ok (.iaload, 1) := by decide +kernel
theorem dX5_works_17 : decode cX5_works 17 = .ok (.istore 4, 2) := by decide +kernel
theorem dX5_works_19 : decode cX5_works 19 = .ok (.aload_n 0, 1) := by decide +kernel
theorem dX5_works_20 : decode cX5_works 20 = .ok (.getfield 7, 3) := by decide +kernel
theorem dX5_works_23 : decode cX5_works 23 = .ok (.iload_n 2, 1) := by decide +kernel
theorem dX5_works_24 : decode cX5_works 24 = .ok (.iconst 3, 1) := by decide +kernel
theorem dX5_works_25 : decode cX5_works 25 = .ok (.iadd, 1) := by decide +kernel
theorem dX5_works_26 : decode cX5_works 26 = .ok (.iaload, 1) := by decide +kernel
theorem dX5_works_27 : decode cX5_works 27 = .ok (.istore 5, 2) := by decide +kernel
theorem dX5_works_29 : decode cX5_works 29 = .ok (.iload_n 1, 1) := by decide +kernel
theorem dX5_works_30 : decode cX5_works 30 = .ok (.ifCond .ne 92, 3) := by decide +kernel
theorem dX5_works_33 : decode cX5_works 33 = .ok (.aload_n 0, 1) := by decide +kernel
theorem dX5_works_34 : decode cX5_works 34 = .ok (.getfield 30, 3) := by decide +kernel
theorem dX5_works_37 : decode cX5_works 37 = .ok (.sipush 200, 3) := by decide +kernel
theorem dX5_works_40 : decode cX5_works 40 = .ok (.if_icmp .ge 82, 3) := by decide +kernel
theorem dX5_works_43 : decode cX5_works 43 = .ok (.aload_n 0, 1) := by decide +kernel
theorem dX5_works_44 : decode cX5_works 44 = .ok (.getfield 17, 3) := by decide +kernel
theorem dX5_works_47 : decode cX5_works 47 = .ok (.iconst 4, 1) := by decide +kernel
theorem dX5_works_48 : decode cX5_works 48 = .ok (.aload_n 0, 1) := by decide +kernel
theorem dX5_works_49 : decode cX5_works 49 = .ok (.getfield 30, 3) := by decide +kernel
theorem dX5_works_52 : decode cX5_works 52 = .ok (.imul, 1) := by decide +kernel
theorem dX5_works_53 : decode cX5_works 53 = .ok (.iload_n 3, 1) := by decide +kernel
theorem dX5_works_54 : decode cX5_works 54 = .ok (.iastore, 1) := by decide +kernel
theorem dX5_works_55 : decode cX5_works 55 = .ok (.aload_n 0, 1) := by decide +kernel
theorem dX5_works_56 : decode cX5_works 56 = .ok (.getfield 17, 3) := by decide +kernel
theorem dX5_works_59 : decode cX5_works 59 = .ok (.iconst 4, 1) := by decide +kernel
theorem dX5_works_60 : decode cX5_works 60 = .ok (.aload_n 0, 1) := by decide +kernel
theorem dX5_works_61 : decode cX5_works 61 = .ok (.getfield 30, 3) := by decide +kernel
theorem dX5_works_64 : decode cX5_works 64 = .ok (.imul, 1) := by decide +kernel
theorem dX5_works_65 : decode cX5_works 65 = .ok (.iconst 1, 1) := by decide +kernel
theorem dX5_works_66 : decode cX5_works 66 = .ok (.iadd, 1) := by decide +kernel
theorem dX5_works_67 : decode cX5_works 67 = .ok (.iload 4, 2) := by decide +kernel
theorem dX5_works_69 : decode cX5_works 69 = .ok (.iastore, 1) := by decide +kernel
theorem dX5_works_70 : decode cX5_works 70 = .ok (.aload_n 0, 1) := by decide +kernel
theorem dX5_works_71 : decode cX5_works 71 = .ok (.getfield 17, 3) := by decide +kernel
theorem dX5_works_74 : decode cX5_works 74 = .ok (.iconst 4, 1) := by decide +kernel
theorem dX5_works_75 : decode cX5_works 75 = .ok (.aload_n 0, 1) := by decide +kernel
theorem dX5_works_76 : decode cX5_works 76 = .ok (.getfield 30, 3) := by decide +kernel
theorem dX5_works_79 : decode cX5_works 79 = .ok (.imul, 1) := by decide +kernel
theorem dX5_works_80 : decode cX5_works 80 = .ok (.iconst 2, 1) := by decide +kernel
theorem dX5_works_81 : decode cX5_works 81 = .ok (.iadd, 1) := by decide +kernel
theorem dX5_works_82 : decode cX5_works 82 = .ok (.iload 5, 2) := by decide +kernel
theorem dX5_works_84 : decode cX5_works 84 = .ok (.iastore, 1) := by decide +kernel
theorem dX5_works_85 : decode cX5_works 85 = .ok (.aload_n 0, 1) := by decide +kernel
theorem dX5_works_86 : decode cX5_works 86 = .ok (.getfield 17, 3) := by decide +kernel
theorem dX5_works_89 : decode cX5_works 89 = .ok (.iconst 4, 1) := by decide +kernel
theorem dX5_works_90 : decode cX5_works 90 = .ok (.aload_n 0, 1) := by decide +kernel
theorem dX5_works_91 : decode cX5_works 91 = .ok (.getfield 30, 3) := by decide +kernel
theorem dX5_works_94 : decode cX5_works 94 = .ok (.imul, 1) := by decide +kernel
theorem dX5_works_95 : decode cX5_works 95 = .ok (.iconst 3, 1) := by decide +kernel
theorem dX5_works_96 : decode cX5_works 96 = .ok (.iadd, 1) := by decide +kernel
theorem dX5_works_97 : decode cX5_works 97 = .ok (.aload_n 0, 1) := by decide +kernel
theorem dX5_works_98 : decode cX5_works 98 = .ok (.getfield 7, 3) := by decide +kernel
theorem dX5_works_101 : decode cX5_works 101 = .ok (.iconst 5, 1) := by decide +kernel
theorem dX5_works_102 : decode cX5_works 102 = .ok (.iaload, 1) := by decide +kernel
theorem dX5_works_103 : decode cX5_works 103 = .ok (.aload_n 0, 1) := by decide +kernel
theorem dX5_works_104 : decode cX5_works 104 = .ok (.getfield 7, 3) := by decide +kernel
theorem dX5_works_107 : decode cX5_works 107 = .ok (.bipush 6, 2) := by decide +kernel
theorem dX5_works_109 : decode cX5_works 109 = .ok (.iaload, 1) := by decide +kernel
theorem dX5_works_110 : decode cX5_works 110 = .ok (.iadd, 1) := by decide +kernel
theorem dX5_works_111 : decode cX5_works 111 = .ok (.iastore, 1) := by decide +kernel
theorem dX5_works_112 : decode cX5_works 112 = .ok (.aload_n 0, 1) := by decide +kernel
theorem dX5_works_113 : decode cX5_works 113 = .ok (.dup, 1) := by decide +kernel
theorem dX5_works_114 : decode cX5_works 114 = .ok (.getfield 30, 3) := by decide +kernel
theorem dX5_works_117 : decode cX5_works 117 = .ok (.iconst 1, 1) := by decide +kernel
theorem dX5_works_118 : decode cX5_works 118 = .ok (.iadd, 1) := by decide +kernel
theorem dX5_works_119 : decode cX5_works 119 = .ok (.putfield 30, 3) := by decide +kernel
theorem dX5_works_122 : decode cX5_works 122 = .ok (.iload_n 1, 1) := by decide +kernel
theorem dX5_works_123 : decode cX5_works 123 = .ok (.bipush 112, 2) := by decide +kernel
theorem dX5_works_125 : decode cX5_works 125 = .ok (.iadd, 1) := by decide +kernel
theorem dX5_works_126 : decode cX5_works 126 = .ok (.iconst 5, 1) := by decide +kernel
theorem dX5_works_127 : decode cX5_works 127 = .ok (.aload_n 0, 1) := by decide +kernel
theorem dX5_works_128 : decode cX5_works 128 = .ok (.getfield 7, 3) := by decide +kernel
theorem dX5_works_131 : decode cX5_works 131 = .ok (.iload_n 1, 1) := by decide +kernel
theorem dX5_works_132 : decode cX5_works 132 = .ok (.bipush 9, 2) := by decide +kernel
theorem dX5_works_134 : decode cX5_works 134 = .ok (.iadd, 1) := by decide +kernel
theorem dX5_works_135 : decode cX5_works 135 = .ok (.iaload, 1) := by decide +kernel
theorem dX5_works_136 : decode cX5_works 136 = .ok (.iconst 1, 1) := by decide +kernel
theorem dX5_works_137 : decode cX5_works 137 = .ok (.isub, 1) := by decide +kernel
theorem dX5_works_138 : decode cX5_works 138 = .ok (.imul, 1) := by decide +kernel
theorem dX5_works_139 : decode cX5_works 139 = .ok (.iadd, 1) := by decide +kernel
theorem dX5_works_140 : decode cX5_works 140 = .ok (.istore 6, 2) := by decide +kernel
theorem dX5_works_142 : decode cX5_works 142 = .ok (.iconst 0, 1) := by decide +kernel
theorem dX5_works_143 : decode cX5_works 143 = .ok (.istore 7, 2) := by decide +kernel
theorem dX5_works_145 : decode cX5_works 145 = .ok (.iload 7, 2) := by decide +kernel
theorem dX5_works_147 : decode cX5_works 147 = .ok (.iconst 5, 1) := by decide +kernel
theorem dX5_works_148 : decode cX5_works 148 = .ok (.if_icmp .ge 28, 3) := by decide +kernel
theorem dX5_works_151 : decode cX5_works 151 = .ok (.aload_n 0, 1) := by decide +kernel
theorem dX5_works_152 : decode cX5_works 152 = .ok (.getfield 7, 3) := by decide +kernel
theorem dX5_works_155 : decode cX5_works 155 = .ok (.iload_n 2, 1) := by decide +kernel
theorem dX5_works_156 : decode cX5_works 156 = .ok (.iload 7, 2) := by decide +kernel
theorem dX5_works_158 : decode cX5_works 158 = .ok (.iadd, 1) := by decide +kernel
theorem dX5_works_159 : decode cX5_works 159 = .ok (.aload_n 0, 1) := by decide +kernel
theorem dX5_works_160 : decode cX5_works 160 = .ok (.getfield 7, 3) := by decide +kernel
theorem dX5_works_163 : decode cX5_works 163 = .ok (.iload 6, 2) := by decide +kernel
theorem dX5_works_165 : decode cX5_works 165 = .ok (.iload 7, 2) := by decide +kernel
theorem dX5_works_167 : decode cX5_works 167 = .ok (.iadd, 1) := by decide +kernel
theorem dX5_works_168 : decode cX5_works 168 = .ok (.iaload, 1) := by decide +kernel
theorem dX5_works_169 : decode cX5_works 169 = .ok (.iastore, 1) := by decide +kernel
theorem dX5_works_170 : decode cX5_works 170 = .ok (.iinc 7 1, 3) := by decide +kernel
theorem dX5_works_173 : decode cX5_works 173 = .ok (.goto (-28), 3) := by decide +kernel
theorem dX5_works_176 : decode cX5_works 176 = .ok (.aload_n 0, 1) := by decide +kernel
theorem dX5_works_177 : decode cX5_works 177 = .ok (.getfield 7, 3) := by decide +kernel
theorem dX5_works_180 : decode cX5_works 180 = .ok (.iload_n 1, 1) := by decide +kernel
theorem dX5_works_181 : decode cX5_works 181 = .ok (.bipush 9, 2) := by decide +kernel
theorem dX5_works_183 : decode cX5_works 183 = .ok (.iadd, 1) := by decide +kernel
theorem dX5_works_184 : decode cX5_works 184 = .ok (.dup2, 1) := by decide +kernel
theorem dX5_works_185 : decode cX5_works 185 = .ok (.iaload, 1) := by decide +kernel
theorem dX5_works_186 : decode cX5_works 186 = .ok (.iconst 1, 1) := by decide +kernel
theorem dX5_works_187 : decode cX5_works 187 = .ok (.isub, 1) := by decide +kernel
theorem dX5_works_188 : decode cX5_works 188 = .ok (.iastore, 1) := by decide +kernel
theorem dX5_works_189 : decode cX5_works 189 = .ok (.aload_n 0, 1) := by decide +kernel
theorem dX5_works_190 : decode cX5_works 190 = .ok (.getfield 7, 3) := by decide +kernel
theorem dX5_works_193 : decode cX5_works 193 = .ok (.iload_n 1, 1) := by decide +kernel
theorem dX5_works_194 : decode cX5_works 194 = .ok (.iconst 3, 1) := by decide +kernel
theorem dX5_works_195 : decode cX5_works 195 = .ok (.iadd, 1) := by decide +kernel
theorem dX5_works_196 : decode cX5_works 196 = .ok (.dup2, 1) := by decide +kernel
theorem dX5_works_197 : decode cX5_works 197 = .ok (.iaload, 1) := by decide +kernel
theorem dX5_works_198 : decode cX5_works 198 = .ok (.iconst 1, 1) := by decide +kernel
theorem dX5_works_199 : decode cX5_works 199 = .ok (.iadd, 1) := by decide +kernel
theorem dX5_works_200 : decode cX5_works 200 = .ok (.iastore, 1) := by decide +kernel
theorem dX5_works_201 : decode cX5_works 201 = .ok (.aload_n 0, 1) := by decide +kernel
theorem dX5_works_202 : decode cX5_works 202 = .ok (.getfield 7, 3) := by decide +kernel
theorem dX5_works_205 : decode cX5_works 205 = .ok (.iload_n 1, 1) := by decide +kernel
theorem dX5_works_206 : decode cX5_works 206 = .ok (.bipush 10, 2) := by decide +kernel
theorem dX5_works_208 : decode cX5_works 208 = .ok (.iadd, 1) := by decide +kernel
theorem dX5_works_209 : decode cX5_works 209 = .ok (.iload_n 3, 1) := by decide +kernel
theorem dX5_works_210 : decode cX5_works 210 = .ok (.iadd, 1) := by decide +kernel
theorem dX5_works_211 : decode cX5_works 211 = .ok (.dup2, 1) := by decide +kernel
theorem dX5_works_212 : decode cX5_works 212 = .ok (.iaload, 1) := by decide +kernel
theorem dX5_works_213 : decode cX5_works 213 = .ok (.iconst 1, 1) := by decide +kernel
theorem dX5_works_214 : decode cX5_works 214 = .ok (.iadd, 1) := by decide +kernel
theorem dX5_works_215 : decode cX5_works 215 = .ok (.iastore, 1) := by decide +kernel
theorem dX5_works_216 : decode cX5_works 216 = .ok (.aload_n 0, 1) := by decide +kernel
theorem dX5_works_217 : decode cX5_works 217 = .ok (.getfield 7, 3) := by decide +kernel
theorem dX5_works_220 : decode cX5_works 220 = .ok (.iload_n 1, 1) := by decide +kernel
theorem dX5_works_221 : decode cX5_works 221 = .ok (.bipush 16, 2) := by decide +kernel
theorem dX5_works_223 : decode cX5_works 223 = .ok (.iadd, 1) := by decide +kernel
theorem dX5_works_224 : decode cX5_works 224 = .ok (.iload_n 3, 1) := by decide +kernel
theorem dX5_works_225 : decode cX5_works 225 = .ok (.iadd, 1) := by decide +kernel
theorem dX5_works_226 : decode cX5_works 226 = .ok (.bipush 31, 2) := by decide +kernel
theorem dX5_works_228 : decode cX5_works 228 = .ok (.aload_n 0, 1) := by decide +kernel
theorem dX5_works_229 : decode cX5_works 229 = .ok (.getfield 7, 3) := by decide +kernel
theorem dX5_works_232 : decode cX5_works 232 = .ok (.iload_n 1, 1) := by decide +kernel
theorem dX5_works_233 : decode cX5_works 233 = .ok (.bipush 16, 2) := by decide +kernel
theorem dX5_works_235 : decode cX5_works 235 = .ok (.iadd, 1) := by decide +kernel
theorem dX5_works_236 : decode cX5_works 236 = .ok (.iload_n 3, 1) := by decide +kernel
theorem dX5_works_237 : decode cX5_works 237 = .ok (.iadd, 1) := by decide +kernel
theorem dX5_works_238 : decode cX5_works 238 = .ok (.iaload, 1) := by decide +kernel
theorem dX5_works_239 : decode cX5_works 239 = .ok (.imul, 1) := by decide +kernel
theorem dX5_works_240 : decode cX5_works 240 = .ok (.iload 5, 2) := by decide +kernel
theorem dX5_works_242 : decode cX5_works 242 = .ok (.iadd, 1) := by decide +kernel
theorem dX5_works_243 : decode cX5_works 243 = .ok (.iload 4, 2) := by decide +kernel
theorem dX5_works_245 : decode cX5_works 245 = .ok (.iadd, 1) := by decide +kernel
theorem dX5_works_246 : decode cX5_works 246 = .ok (.ldc 101, 2) := by decide +kernel
theorem dX5_works_248 : decode cX5_works 248 = .ok (.irem, 1) := by decide +kernel
theorem dX5_works_249 : decode cX5_works 249 = .ok (.iastore, 1) := by decide +kernel
theorem dX5_works_250 : decode cX5_works 250 = .ok (.aload_n 0, 1) := by decide +kernel
theorem dX5_works_251 : decode cX5_works 251 = .ok (.getfield 7, 3) := by decide +kernel
theorem dX5_works_254 : decode cX5_works 254 = .ok (.iload_n 1, 1) := by decide +kernel
theorem dX5_works_255 : decode cX5_works 255 = .ok (.bipush 22, 2) := by decide +kernel
theorem dX5_works_257 : decode cX5_works 257 = .ok (.iadd, 1) := by decide +kernel
theorem dX5_works_258 : decode cX5_works 258 = .ok (.iload_n 3, 1) := by decide +kernel
theorem dX5_works_259 : decode cX5_works 259 = .ok (.iadd, 1) := by decide +kernel
theorem dX5_works_260 : decode cX5_works 260 = .ok (.iload 4, 2) := by decide +kernel
theorem dX5_works_262 : decode cX5_works 262 = .ok (.iastore, 1) := by decide +kernel
theorem dX5_works_263 : decode cX5_works 263 = .ok (.aload_n 0, 1) := by decide +kernel
theorem dX5_works_264 : decode cX5_works 264 = .ok (.iload_n 1, 1) := by decide +kernel
theorem dX5_works_265 : decode cX5_works 265 = .ok (.iload_n 3, 1) := by decide +kernel
theorem dX5_works_266 : decode cX5_works 266 = .ok (.invokevirtual 102, 3) := by decide +kernel
theorem dX5_works_269 : decode cX5_works 269 = .ok (.istore 7, 2) := by decide +kernel
theorem dX5_works_271 : decode cX5_works 271 = .ok (.iload 5, 2) := by decide +kernel
theorem dX5_works_273 : decode cX5_works 273 = .ok (.ifCond .le 131, 3) := by decide +kernel
theorem dX5_works_276 : decode cX5_works 276 = .ok (.iload 7, 2) := by decide +kernel
theorem dX5_works_278 : decode cX5_works 278 = .ok (.ifCond .le 126, 3) := by decide +kernel
theorem dX5_works_281 : decode cX5_works 281 = .ok (.aload_n 0, 1) := by decide +kernel
theorem dX5_works_282 : decode cX5_works 282 = .ok (.iload_n 1, 1) := by decide +kernel
theorem dX5_works_283 : decode cX5_works 283 = .ok (.iload_n 3, 1) := by decide +kernel
theorem dX5_works_284 : decode cX5_works 284 = .ok (.iload 5, 2) := by decide +kernel
theorem dX5_works_286 : decode cX5_works 286 = .ok (.iload 7, 2) := by decide +kernel
theorem dX5_works_288 : decode cX5_works 288 = .ok (.irem, 1) := by decide +kernel
theorem dX5_works_289 : decode cX5_works 289 = .ok (.invokevirtual 105, 3) := by decide +kernel
theorem dX5_works_292 : decode cX5_works 292 = .ok (.istore 8, 2) := by decide +kernel
theorem dX5_works_294 : decode cX5_works 294 = .ok (.iload 4, 2) := by decide +kernel
theorem dX5_works_296 : decode cX5_works 296 = .ok (.aload_n 0, 1) := by decide +kernel
theorem dX5_works_297 : decode cX5_works 297 = .ok (.getfield 7, 3) := by decide +kernel
theorem dX5_works_300 : decode cX5_works 300 = .ok (.iload_n 1, 1) := by decide +kernel
theorem dX5_works_301 : decode cX5_works 301 = .ok (.iload 8, 2) := by decide +kernel
theorem dX5_works_303 : decode cX5_works 303 = .ok (.invokestatic 34, 3) := by decide +kernel
theorem dX5_works_306 : decode cX5_works 306 = .ok (.iconst 3, 1) := by decide +kernel
theorem dX5_works_307 : decode cX5_works 307 = .ok (.iadd, 1) := by decide +kernel
theorem dX5_works_308 : decode cX5_works 308 = .ok (.iaload, 1) := by decide +kernel
theorem dX5_works_309 : decode cX5_works 309 = .ok (.iadd, 1) := by decide +kernel
theorem dX5_works_310 : decode cX5_works 310 = .ok (.istore 9, 2) := by decide +kernel
theorem dX5_works_312 : decode cX5_works 312 = .ok (.aload_n 0, 1) := by decide +kernel
theorem dX5_works_313 : decode cX5_works 313 = .ok (.iload_n 1, 1) := by decide +kernel
theorem dX5_works_314 : decode cX5_works 314 = .ok (.aload_n 0, 1) := by decide +kernel
theorem dX5_works_315 : decode cX5_works 315 = .ok (.getfield 7, 3) := by decide +kernel
theorem dX5_works_318 : decode cX5_works 318 = .ok (.iload_n 1, 1) := by decide +kernel
theorem dX5_works_319 : decode cX5_works 319 = .ok (.iload 8, 2) := by decide +kernel
theorem dX5_works_321 : decode cX5_works 321 = .ok (.invokestatic 34, 3) := by decide +kernel
theorem dX5_works_324 : decode cX5_works 324 = .ok (.iconst 1, 1) := by decide +kernel
theorem dX5_works_325 : decode cX5_works 325 = .ok (.iadd, 1) := by decide +kernel
theorem dX5_works_326 : decode cX5_works 326 = .ok (.iaload, 1) := by decide +kernel
theorem dX5_works_327 : decode cX5_works 327 = .ok (.iload 9, 2) := by decide +kernel
theorem dX5_works_329 : decode cX5_works 329 = .ok (.iload 8, 2) := by decide +kernel
theorem dX5_works_331 : decode cX5_works 331 = .ok (.iload 5, 2) := by decide +kernel
theorem dX5_works_333 : decode cX5_works 333 = .ok (.iconst 1, 1) := by decide +kernel
theorem dX5_works_334 : decode cX5_works 334 = .ok (.isub, 1) := by decide +kernel
theorem dX5_works_335 : decode cX5_works 335 = .ok (.invokevirtual 56, 3) := by decide +kernel
theorem dX5_works_338 : decode cX5_works 338 = .ok (.aload_n 0, 1) := by decide +kernel
theorem dX5_works_339 : decode cX5_works 339 = .ok (.getfield 7, 3) := by decide +kernel
theorem dX5_works_342 : decode cX5_works 342 = .ok (.iload_n 1, 1) := by decide +kernel
theorem dX5_works_343 : decode cX5_works 343 = .ok (.iload 8, 2) := by decide +kernel
theorem dX5_works_345 : decode cX5_works 345 = .ok (.invokestatic 34, 3) := by decide +kernel
theorem dX5_works_348 : decode cX5_works 348 = .ok (.iconst 5, 1) := by decide +kernel
theorem dX5_works_349 : decode cX5_works 349 = .ok (.iadd, 1) := by decide +kernel
theorem dX5_works_350 : decode cX5_works 350 = .ok (.dup2, 1) := by decide +kernel
theorem dX5_works_351 : decode cX5_works 351 = .ok (.iaload, 1) := by decide +kernel
theorem dX5_works_352 : decode cX5_works 352 = .ok (.iconst 1, 1) := by decide +kernel
theorem dX5_works_353 : decode cX5_works 353 = .ok (.iadd, 1) := by decide +kernel
theorem dX5_works_354 : decode cX5_works 354 = .ok (.iastore, 1) := by decide +kernel
theorem dX5_works_355 : decode cX5_works 355 = .ok (.aload_n 0, 1) := by decide +kernel
theorem dX5_works_356 : decode cX5_works 356 = .ok (.getfield 7, 3) := by decide +kernel
theorem dX5_works_359 : decode cX5_works 359 = .ok (.iload_n 1, 1) := by decide +kernel
theorem dX5_works_360 : decode cX5_works 360 = .ok (.iload 8, 2) := by decide +kernel
theorem dX5_works_362 : decode cX5_works 362 = .ok (.invokestatic 34, 3) := by decide +kernel
theorem dX5_works_365 : decode cX5_works 365 = .ok (.iconst 4, 1) := by decide +kernel
theorem dX5_works_366 : decode cX5_works 366 = .ok (.iadd, 1) := by decide +kernel
theorem dX5_works_367 : decode cX5_works 367 = .ok (.iload 9, 2) := by decide +kernel
theorem dX5_works_369 : decode cX5_works 369 = .ok (.aload_n 0, 1) := by decide +kernel
theorem dX5_works_370 : decode cX5_works 370 = .ok (.getfield 7, 3) := by decide +kernel
theorem dX5_works_373 : decode cX5_works 373 = .ok (.iload_n 1, 1) := by decide +kernel
theorem dX5_works_374 : decode cX5_works 374 = .ok (.iload 8, 2) := by decide +kernel
theorem dX5_works_376 : decode cX5_works 376 = .ok (.invokestatic 34, 3) := by decide +kernel
theorem dX5_works_379 : decode cX5_works 379 = .ok (.iconst 4, 1) := by decide +kernel
theorem dX5_works_380 : decode cX5_works 380 = .ok (.iadd, 1) := by decide +kernel
theorem dX5_works_381 : decode cX5_works 381 = .ok (.iaload, 1) := by decide +kernel
theorem dX5_works_382 : decode cX5_works 382 = .ok (.if_icmp .le 8, 3) := by decide +kernel
theorem dX5_works_385 : decode cX5_works 385 = .ok (.iload 9, 2) := by decide +kernel
theorem dX5_works_387 : decode cX5_works 387 = .ok (.goto 16, 3) := by decide +kernel
theorem dX5_works_390 : decode cX5_works 390 = .ok (.aload_n 0, 1) := by decide +kernel
theorem dX5_works_391 : decode cX5_works 391 = .ok (.getfield 7, 3) := by decide +kernel
theorem dX5_works_394 : decode cX5_works 394 = .ok (.iload_n 1, 1) := by decide +kernel
theorem dX5_works_395 : decode cX5_works 395 = .ok (.iload 8, 2) := by decide +kernel
theorem dX5_works_397 : decode cX5_works 397 = .ok (.invokestatic 34, 3) := by decide +kernel
theorem dX5_works_400 : decode cX5_works 400 = .ok (.iconst 4, 1) := by decide +kernel
theorem dX5_works_401 : decode cX5_works 401 = .ok (.iadd, 1) := by decide +kernel
theorem dX5_works_402 : decode cX5_works 402 = .ok (.iaload, 1) := by decide +kernel
theorem dX5_works_403 : decode cX5_works 403 = .ok (.iastore, 1) := by decide +kernel
theorem dX5_works_404 : decode cX5_works 404 = .ok (.return_, 1) := by decide +kernel
theorem dX5_empties_0 : decode cX5_empties 0 = .ok (.aload_n 0, 1) := by decide +kernel
theorem dX5_empties_1 : decode cX5_empties 1 = .ok (.iload_n 1, 1) := by decide +kernel
theorem dX5_empties_2 : decode cX5_empties 2 = .ok (.invokevirtual 98, 3) := by decide +kernel
theorem dX5_empties_5 : decode cX5_empties 5 = .ok (.istore_n 2, 1) := by decide +kernel
theorem dX5_empties_6 : decode cX5_empties 6 = .ok (.aload_n 0, 1) := by decide +kernel
theorem dX5_empties_7 : decode cX5_empties 7 = .ok (.iconst 0, 1) := by decide +kernel
theorem dX5_empties_8 : decode cX5_empties 8 = .ok (.iload_n 1, 1) := by decide +kernel
theorem dX5_empties_9 : decode cX5_empties 9 = .ok (.invokevirtual 95, 3) := by decide +kernel
theorem dX5_empties_12 : decode cX5_empties 12 = .ok (.istore_n 3, 1) := by decide +kernel
theorem dX5_empties_13 : decode cX5_empties 13 = .ok (.iload_n 3, 1) := by decide +kernel
theorem dX5_empties_14 : decode cX5_empties 14 = .ok (.iload_n 2, 1) := by decide +kernel
theorem dX5_empties_15 : decode cX5_empties 15 = .ok (.if_icmp .ge 7, 3) := by decide +kernel
theorem dX5_empties_18 : decode cX5_empties 18 = .ok (.iload_n 3, 1) := by decide +kernel
theorem dX5_empties_19 : decode cX5_empties 19 = .ok (.goto 4, 3) := by decide +kernel
theorem dX5_empties_22 : decode cX5_empties 22 = .ok (.iload_n 2, 1) := by decide +kernel
theorem dX5_empties_23 : decode cX5_empties 23 = .ok (.istore 4, 2) := by decide +kernel
theorem dX5_empties_25 : decode cX5_empties 25 = .ok (.iconst 0, 1) := by decide +kernel
theorem dX5_empties_26 : decode cX5_empties 26 = .ok (.istore 5, 2) := by decide +kernel
theorem dX5_empties_28 : decode cX5_empties 28 = .ok (.iconst 0, 1) := by decide +kernel
theorem dX5_empties_29 : decode cX5_empties 29 = .ok (.istore 6, 2) := by decide +kernel
theorem dX5_empties_31 : decode cX5_empties 31 = .ok (.iload 6, 2) := by decide +kernel
theorem dX5_empties_33 : decode cX5_empties 33 = .ok (.aload_n 0, 1) := by decide +kernel
theorem dX5_empties_34 : decode cX5_empties 34 = .ok (.getfield 7, 3) := by decide +kernel
theorem dX5_empties_37 : decode cX5_empties 37 = .ok (.iconst 1, 1) := by decide +kernel
theorem dX5_empties_38 : decode cX5_empties 38 = .ok (.iaload, 1) := by decide +kernel
theorem dX5_empties_39 : decode cX5_empties 39 = .ok (.if_icmp .ge 181, 3) := by decide +kernel
theorem dX5_empties_42 : decode cX5_empties 42 = .ok (.iconst 0, 1) := by decide +kernel
theorem dX5_empties_43 : decode cX5_empties 43 = .ok (.iload 6, 2) := by decide +kernel
theorem dX5_empties_45 : decode cX5_empties 45 = .ok (.invokestatic 34, 3) := by decide +kernel
theorem dX5_empties_48 : decode cX5_empties 48 = .ok (.istore 7, 2) := by decide +kernel
theorem dX5_empties_50 : decode cX5_empties 50 = .ok (.iload 4, 2) := by decide +kernel
theorem dX5_empties_52 : decode cX5_empties 52 = .ok (.aload_n 0, 1) := by decide +kernel
theorem dX5_empties_53 : decode cX5_empties 53 = .ok (.getfield 7, 3) := by decide +kernel
theorem dX5_empties_56 : decode cX5_empties 56 = .ok (.iload 7, 2) := by decide +kernel
theorem dX5_empties_58 : decode cX5_empties 58 = .ok (.iconst 2, 1) := by decide +kernel
theorem dX5_empties_59 : decode cX5_empties 59 = .ok (.iadd, 1) := by decide +kernel
theorem dX5_empties_60 : decode cX5_empties 60 = .ok (.iaload, 1) := by decide +kernel
theorem dX5_empties_61 : decode cX5_empties 61 = .ok (.iadd, 1) := by decide +kernel
theorem dX5_empties_62 : decode cX5_empties 62 = .ok (.ldc 91, 2) := by decide +kernel
theorem dX5_empties_64 : decode cX5_empties 64 = .ok (.if_icmp .le 8, 3) := by decide +kernel
theorem dX5_empties_67 : decode cX5_empties 67 = .ok (.ldc 91, 2) := by decide +kernel
theorem dX5_empties_69 : decode cX5_empties 69 = .ok (.goto 15, 3) := by decide +kernel
theorem dX5_empties_72 : decode cX5_empties 72 = .ok (.iload 4, 2) := by decide +kernel
theorem dX5_empties_74 : decode cX5_empties 74 = .ok (.aload_n 0, 1) := by decide +kernel
theorem dX5_empties_75 : decode cX5_empties 75 = .ok (.getfield 7, 3) := by decide +kernel
theorem dX5_empties_78 : decode cX5_empties 78 = .ok (.iload 7, 2) := by decide +kernel
theorem dX5_empties_80 : decode cX5_empties 80 = .ok (.iconst 2, 1) := by decide +kernel
theorem dX5_empties_81 : decode cX5_empties 81 = .ok (.iadd, 1) := by decide +kernel
theorem dX5_empties_82 : decode cX5_empties 82 = .ok (.iaload, 1) := by decide +kernel
theorem dX5_empties_83 : decode cX5_empties 83 = .ok (.iadd, 1) := by decide +kernel
theorem dX5_empties_84 : decode cX5_empties 84 = .ok (.istore 8, 2) := by decide +kernel
theorem dX5_empties_86 : decode cX5_empties 86 = .ok (.aload_n 0, 1) := by decide +kernel
theorem dX5_empties_87 : decode cX5_empties 87 = .ok (.getfield 7, 3) := by decide +kernel
theorem dX5_empties_90 : decode cX5_empties 90 = .ok (.iload 7, 2) := by decide +kernel
theorem dX5_empties_92 : decode cX5_empties 92 = .ok (.iconst 1, 1) := by decide +kernel
theorem dX5_empties_93 : decode cX5_empties 93 = .ok (.iadd, 1) := by decide +kernel
theorem dX5_empties_94 : decode cX5_empties 94 = .ok (.iaload, 1) := by decide +kernel
theorem dX5_empties_95 : decode cX5_empties 95 = .ok (.istore 9, 2) := by decide +kernel
theorem dX5_empties_97 : decode cX5_empties 97 = .ok (.aload_n 0, 1) := by decide +kernel
theorem dX5_empties_98 : decode cX5_empties 98 = .ok (.getfield 7, 3) := by decide +kernel
theorem dX5_empties_101 : decode cX5_empties 101 = .ok (.iconst 2, 1) := by decide +kernel
theorem dX5_empties_102 : decode cX5_empties 102 = .ok (.iaload, 1) := by decide +kernel
theorem dX5_empties_103 : decode cX5_empties 103 = .ok (.ifCond .eq 34, 3) := by decide +kernel
theorem dX5_empties_106 : decode cX5_empties 106 = .ok (.aload_n 0, 1) := by decide +kernel
theorem dX5_empties_107 : decode cX5_empties 107 = .ok (.iconst 0, 1) := by decide +kernel
theorem dX5_empties_108 : decode cX5_empties 108 = .ok (.iload 9, 2) := by decide +kernel
theorem dX5_empties_110 : decode cX5_empties 110 = .ok (.invokevirtual 88, 3) := by decide +kernel
theorem dX5_empties_113 : decode cX5_empties 113 = .ok (.iconst (-1), 1) := by decide +kernel
theorem dX5_empties_114 : decode cX5_empties 114 = .ok (.if_icmp .eq 27, 3) := by decide +kernel
theorem dX5_empties_117 : decode cX5_empties 117 = .ok (.aload_n 0, 1) := by decide +kernel
theorem dX5_empties_118 : decode cX5_empties 118 = .ok (.iload 9, 2) := by decide +kernel
theorem dX5_empties_120 : decode cX5_empties 120 = .ok (.invokevirtual 108, 3) := by decide +kernel
theorem dX5_empties_123 : decode cX5_empties 123 = .ok (.ifCond .ne 18, 3) := by decide +kernel
theorem dX5_empties_126 : decode cX5_empties 126 = .ok (.aload_n 0, 1) := by decide +kernel
theorem dX5_empties_127 : decode cX5_empties 127 = .ok (.iload 9, 2) := by decide +kernel
theorem dX5_empties_129 : decode cX5_empties 129 = .ok (.invokevirtual 92, 3) := by decide +kernel
theorem dX5_empties_132 : decode cX5_empties 132 = .ok (.iload 6, 2) := by decide +kernel
theorem dX5_empties_134 : decode cX5_empties 134 = .ok (.if_icmp .ne 7, 3) := by decide +kernel
theorem dX5_empties_137 : decode cX5_empties 137 = .ok (.iconst 1, 1) := by decide +kernel
theorem dX5_empties_138 : decode cX5_empties 138 = .ok (.goto 4, 3) := by decide +kernel
theorem dX5_empties_141 : decode cX5_empties 141 = .ok (.iconst 0, 1) := by decide +kernel
theorem dX5_empties_142 : decode cX5_empties 142 = .ok (.istore 10, 2) := by decide +kernel
theorem dX5_empties_144 : decode cX5_empties 144 = .ok (.aload_n 0, 1) := by decide +kernel
theorem dX5_empties_145 : decode cX5_empties 145 = .ok (.getfield 7, 3) := by decide +kernel
theorem dX5_empties_148 : decode cX5_empties 148 = .ok (.iload 7, 2) := by decide +kernel
theorem dX5_empties_150 : decode cX5_empties 150 = .ok (.iconst 0, 1) := by decide +kernel
theorem dX5_empties_151 : decode cX5_empties 151 = .ok (.iadd, 1) := by decide +kernel
theorem dX5_empties_152 : decode cX5_empties 152 = .ok (.iaload, 1) := by decide +kernel
theorem dX5_empties_153 : decode cX5_empties 153 = .ok (.iload_n 1, 1) := by decide +kernel
theorem dX5_empties_154 : decode cX5_empties 154 = .ok (.if_icmp .ne 60, 3) := by decide +kernel
theorem dX5_empties_157 : decode cX5_empties 157 = .ok (.aload_n 0, 1) := by decide +kernel
theorem dX5_empties_158 : decode cX5_empties 158 = .ok (.getfield 7, 3) := by decide +kernel
theorem dX5_empties_161 : decode cX5_empties 161 = .ok (.iload 7, 2) := by decide +kernel
theorem dX5_empties_163 : decode cX5_empties 163 = .ok (.iconst 4, 1) := by decide +kernel
theorem dX5_empties_164 : decode cX5_empties 164 = .ok (.iadd, 1) := by decide +kernel
theorem dX5_empties_165 : decode cX5_empties 165 = .ok (.iaload, 1) := by decide +kernel
theorem dX5_empties_166 : decode cX5_empties 166 = .ok (.iload 8, 2) := by decide +kernel
theorem dX5_empties_168 : decode cX5_empties 168 = .ok (.if_icmp .ge 46, 3) := by decide +kernel
theorem dX5_empties_171 : decode cX5_empties 171 = .ok (.iload 10, 2) := by decide +kernel
theorem dX5_empties_173 : decode cX5_empties 173 = .ok (.ifCond .eq 41, 3) := by decide +kernel
theorem dX5_empties_176 : decode cX5_empties 176 = .ok (.aload_n 0, 1) := by decide +kernel
theorem dX5_empties_177 : decode cX5_empties 177 = .ok (.getfield 7, 3) := by decide +kernel
theorem dX5_empties_180 : decode cX5_empties 180 = .ok (.iload 7, 2) := by decide +kernel
theorem dX5_empties_182 : decode cX5_empties 182 = .ok (.iconst 4, 1) := by decide +kernel
theorem dX5_empties_183 : decode cX5_empties 183 = .ok (.iadd, 1) := by decide +kernel
theorem dX5_empties_184 : decode cX5_empties 184 = .ok (.iload 8, 2) := by decide +kernel
theorem dX5_empties_186 : decode cX5_empties 186 = .ok (.iastore, 1) := by decide +kernel
theorem dX5_empties_187 : decode cX5_empties 187 = .ok (.aload_n 0, 1) := by decide +kernel
theorem dX5_empties_188 : decode cX5_empties 188 = .ok (.getfield 7, 3) := by decide +kernel
theorem dX5_empties_191 : decode cX5_empties 191 = .ok (.iload 7, 2) := by decide +kernel
theorem dX5_empties_193 : decode cX5_empties 193 = .ok (.bipush 6, 2) := by decide +kernel
theorem dX5_empties_195 : decode cX5_empties 195 = .ok (.iadd, 1) := by decide +kernel
theorem dX5_empties_196 : decode cX5_empties 196 = .ok (.dup2, 1) := by decide +kernel
theorem dX5_empties_197 : decode cX5_empties 197 = .ok (.iaload, 1) := by decide +kernel
theorem dX5_empties_198 : decode cX5_empties 198 = .ok (.iconst 1, 1) := by decide +kernel
theorem dX5_empties_199 : decode cX5_empties 199 = .ok (.iadd, 1) := by decide +kernel
theorem dX5_empties_200 : decode cX5_empties 200 = .ok (.iastore, 1) := by decide +kernel
theorem dX5_empties_201 : decode cX5_empties 201 = .ok (.aload_n 0, 1) := by decide +kernel
theorem dX5_empties_202 : decode cX5_empties 202 = .ok (.getfield 7, 3) := by decide +kernel
theorem dX5_empties_205 : decode cX5_empties 205 = .ok (.iconst 4, 1) := by decide +kernel
theorem dX5_empties_206 : decode cX5_empties 206 = .ok (.dup2, 1) := by decide +kernel
theorem dX5_empties_207 : decode cX5_empties 207 = .ok (.iaload, 1) := by decide +kernel
theorem dX5_empties_208 : decode cX5_empties 208 = .ok (.iconst 1, 1) := by decide +kernel
theorem dX5_empties_209 : decode cX5_empties 209 = .ok (.iadd, 1) := by decide +kernel
theorem dX5_empties_210 : decode cX5_empties 210 = .ok (.iastore, 1) := by decide +kernel
theorem dX5_empties_211 : decode cX5_empties 211 = .ok (.iinc 5 1, 3) := by decide +kernel
theorem dX5_empties_214 : decode cX5_empties 214 = .ok (.iinc 6 1, 3) := by decide +kernel
theorem dX5_empties_217 : decode cX5_empties 217 = .ok (.goto (-186), 3) := by decide +kernel
theorem dX5_empties_220 : decode cX5_empties 220 = .ok (.iload 5, 2) := by decide +kernel
theorem dX5_empties_222 : decode cX5_empties 222 = .ok (.ireturn, 1) := by decide +kernel
theorem dX5_rounds_0 : decode cX5_rounds 0 = .ok (.iconst 0, 1) := by decide +kernel
theorem dX5_rounds_1 : decode cX5_rounds 1 = .ok (.istore_n 1, 1) := by decide +kernel
theorem dX5_rounds_2 : decode cX5_rounds 2 = .ok (.iconst 0, 1) := by decide +kernel
theorem dX5_rounds_3 : decode cX5_rounds 3 = .ok (.istore_n 2, 1) := by decide +kernel
theorem dX5_rounds_4 : decode cX5_rounds 4 = .ok (.iload_n 2, 1) := by decide +kernel
theorem dX5_rounds_5 : decode cX5_rounds 5 = .ok (.aload_n 0, 1) := by decide +kernel
theorem dX5_rounds_6 : decode cX5_rounds 6 = .ok (.getfield 7, 3) := by decide +kernel
theorem dX5_rounds_9 : decode cX5_rounds 9 = .ok (.iconst 0, 1) := by decide +kernel
theorem dX5_rounds_10 : decode cX5_rounds 10 = .ok (.iaload, 1) := by decide +kernel
theorem dX5_rounds_11 : decode cX5_rounds 11 = .ok (.if_icmp .ge 31, 3) := by decide +kernel
theorem dX5_rounds_14 : decode cX5_rounds 14 = .ok (.aload_n 0, 1) := by decide +kernel
theorem dX5_rounds_15 : decode cX5_rounds 15 = .ok (.iload_n 2, 1) := by decide +kernel
theorem dX5_rounds_16 : decode cX5_rounds 16 = .ok (.invokevirtual 108, 3) := by decide +kernel
theorem dX5_rounds_19 : decode cX5_rounds 19 = .ok (.ifCond .eq 17, 3) := by decide +kernel
theorem dX5_rounds_22 : decode cX5_rounds 22 = .ok (.aload_n 0, 1) := by decide +kernel
theorem dX5_rounds_23 : decode cX5_rounds 23 = .ok (.iconst 0, 1) := by decide +kernel
theorem dX5_rounds_24 : decode cX5_rounds 24 = .ok (.aload_n 0, 1) := by decide +kernel
theorem dX5_rounds_25 : decode cX5_rounds 25 = .ok (.iconst 0, 1) := by decide +kernel
theorem dX5_rounds_26 : decode cX5_rounds 26 = .ok (.iload_n 2, 1) := by decide +kernel
theorem dX5_rounds_27 : decode cX5_rounds 27 = .ok (.invokevirtual 88, 3) := by decide +kernel
theorem dX5_rounds_30 : decode cX5_rounds 30 = .ok (.invokevirtual 111, 3) := by decide +kernel
theorem dX5_rounds_33 : decode cX5_rounds 33 = .ok (.iinc 1 1, 3) := by decide +kernel
theorem dX5_rounds_36 : decode cX5_rounds 36 = .ok (.iinc 2 1, 3) := by decide +kernel
theorem dX5_rounds_39 : decode cX5_rounds 39 = .ok (.goto (-35), 3) := by decide +kernel
theorem dX5_rounds_42 : decode cX5_rounds 42 = .ok (.iconst 0, 1) := by decide +kernel
theorem dX5_rounds_43 : decode cX5_rounds 43 = .ok (.istore_n 2, 1) := by decide +kernel
theorem dX5_rounds_44 : decode cX5_rounds 44 = .ok (.iload_n 2, 1) := by decide +kernel
theorem dX5_rounds_45 : decode cX5_rounds 45 = .ok (.aload_n 0, 1) := by decide +kernel
theorem dX5_rounds_46 : decode cX5_rounds 46 = .ok (.getfield 7, 3) := by decide +kernel
theorem dX5_rounds_49 : decode cX5_rounds 49 = .ok (.iconst 0, 1) := by decide +kernel
theorem dX5_rounds_50 : decode cX5_rounds 50 = .ok (.iaload, 1) := by decide +kernel
theorem dX5_rounds_51 : decode cX5_rounds 51 = .ok (.if_icmp .ge 27, 3) := by decide +kernel
theorem dX5_rounds_54 : decode cX5_rounds 54 = .ok (.aload_n 0, 1) := by decide +kernel
theorem dX5_rounds_55 : decode cX5_rounds 55 = .ok (.getfield 7, 3) := by decide +kernel
theorem dX5_rounds_58 : decode cX5_rounds 58 = .ok (.iconst 2, 1) := by decide +kernel
theorem dX5_rounds_59 : decode cX5_rounds 59 = .ok (.iaload, 1) := by decide +kernel
theorem dX5_rounds_60 : decode cX5_rounds 60 = .ok (.iconst 1, 1) := by decide +kernel
theorem dX5_rounds_61 : decode cX5_rounds 61 = .ok (.if_icmp .eq 17, 3) := by decide +kernel
theorem dX5_rounds_64 : decode cX5_rounds 64 = .ok (.iload_n 1, 1) := by decide +kernel
theorem dX5_rounds_65 : decode cX5_rounds 65 = .ok (.aload_n 0, 1) := by decide +kernel
theorem dX5_rounds_66 : decode cX5_rounds 66 = .ok (.iload_n 2, 1) := by decide +kernel
theorem dX5_rounds_67 : decode cX5_rounds 67 = .ok (.invokevirtual 115, 3) := by decide +kernel
theorem dX5_rounds_70 : decode cX5_rounds 70 = .ok (.iadd, 1) := by decide +kernel
theorem dX5_rounds_71 : decode cX5_rounds 71 = .ok (.istore_n 1, 1) := by decide +kernel
theorem dX5_rounds_72 : decode cX5_rounds 72 = .ok (.iinc 2 1, 3) := by decide +kernel
theorem dX5_rounds_75 : decode cX5_rounds 75 = .ok (.goto (-31), 3) := by decide +kernel
theorem dX5_rounds_78 : decode cX5_rounds 78 = .ok (.aload_n 0, 1) := by decide +kernel
theorem dX5_rounds_79 : decode cX5_rounds 79 = .ok (.getfield 7, 3) := by decide +kernel
theorem dX5_rounds_82 : decode cX5_rounds 82 = .ok (.iconst 5, 1) := by decide +kernel
theorem dX5_rounds_83 : decode cX5_rounds 83 = .ok (.dup2, 1) := by decide +kernel
theorem dX5_rounds_84 : decode cX5_rounds 84 = .ok (.iaload, 1) := by decide +kernel
theorem dX5_rounds_85 : decode cX5_rounds 85 = .ok (.iconst 1, 1) := by decide +kernel
theorem dX5_rounds_86 : decode cX5_rounds 86 = .ok (.iadd, 1) := by decide +kernel
theorem dX5_rounds_87 : decode cX5_rounds 87 = .ok (.iastore, 1) := by decide +kernel
theorem dX5_rounds_88 : decode cX5_rounds 88 = .ok (.iload_n 1, 1) := by decide +kernel
theorem dX5_rounds_89 : decode cX5_rounds 89 = .ok (.ifCond .le 7, 3) := by decide +kernel
theorem dX5_rounds_92 : decode cX5_rounds 92 = .ok (.iconst 1, 1) := by decide +kernel
theorem dX5_rounds_93 : decode cX5_rounds 93 = .ok (.goto 4, 3) := by decide +kernel
theorem dX5_rounds_96 : decode cX5_rounds 96 = .ok (.iconst 0, 1) := by decide +kernel
theorem dX5_rounds_97 : decode cX5_rounds 97 = .ok (.ireturn, 1) := by decide +kernel
theorem dX5_leastTime_0 : decode cX5_leastTime 0 = .ok (.ldc 91, 2) := by decide +kernel
theorem dX5_leastTime_2 : decode cX5_leastTime 2 = .ok (.istore_n 1, 1) := by decide +kernel
theorem dX5_leastTime_3 : decode cX5_leastTime 3 = .ok (.iconst 0, 1) := by decide +kernel
theorem dX5_leastTime_4 : decode cX5_leastTime 4 = .ok (.istore_n 2, 1) := by decide +kernel
theorem dX5_leastTime_5 : decode cX5_leastTime 5 = .ok (.iload_n 2, 1) := by decide +kernel
theorem dX5_leastTime_6 : decode cX5_leastTime 6 = .ok (.aload_n 0, 1) := by decide +kernel
theorem dX5_leastTime_7 : decode cX5_leastTime 7 = .ok (.getfield 7, 3) := by decide +kernel
theorem dX5_leastTime_10 : decode cX5_leastTime 10 = .ok (.iconst 0, 1) := by decide +kernel
theorem dX5_leastTime_11 : decode cX5_leastTime 11 = .ok (.iaload, 1) := by decide +kernel
theorem dX5_leastTime_12 : decode cX5_leastTime 12 = .ok (.if_icmp .ge 27, 3) := by decide +kernel
theorem dX5_leastTime_15 : decode cX5_leastTime 15 = .ok (.aload_n 0, 1) := by decide +kernel
theorem dX5_leastTime_16 : decode cX5_leastTime 16 = .ok (.iconst 0, 1) := by decide +kernel
theorem dX5_leastTime_17 : decode cX5_leastTime 17 = .ok (.iload_n 2, 1) := by decide +kernel
theorem dX5_leastTime_18 : decode cX5_leastTime 18 = .ok (.invokevirtual 95, 3) := by decide +kernel
theorem dX5_leastTime_21 : decode cX5_leastTime 21 = .ok (.istore_n 3, 1) := by decide +kernel
theorem dX5_leastTime_22 : decode cX5_leastTime 22 = .ok (.iload_n 3, 1) := by decide +kernel
theorem dX5_leastTime_23 : decode cX5_leastTime 23 = .ok (.iload_n 1, 1) := by decide +kernel
theorem dX5_leastTime_24 : decode cX5_leastTime 24 = .ok (.if_icmp .ge 7, 3) := by decide +kernel
theorem dX5_leastTime_27 : decode cX5_leastTime 27 = .ok (.iload_n 3, 1) := by decide +kernel
theorem dX5_leastTime_28 : decode cX5_leastTime 28 = .ok (.goto 4, 3) := by decide +kernel
theorem dX5_leastTime_31 : decode cX5_leastTime 31 = .ok (.iload_n 1, 1) := by decide +kernel
theorem dX5_leastTime_32 : decode cX5_leastTime 32 = .ok (.istore_n 1, 1) := by decide +kernel
theorem dX5_leastTime_33 : decode cX5_leastTime 33 = .ok (.iinc 2 1, 3) := by decide +kernel
theorem dX5_leastTime_36 : decode cX5_leastTime 36 = .ok (.goto (-31), 3) := by decide +kernel
theorem dX5_leastTime_39 : decode cX5_leastTime 39 = .ok (.iload_n 1, 1) := by decide +kernel
theorem dX5_leastTime_40 : decode cX5_leastTime 40 = .ok (.ireturn, 1) := by decide +kernel
theorem dX5_lets_0 : decode cX5_lets 0 = .ok (.aload_n 0, 1) := by decide +kernel
theorem dX5_lets_1 : decode cX5_lets 1 = .ok (.invokevirtual 118, 3) := by decide +kernel
theorem dX5_lets_4 : decode cX5_lets 4 = .ok (.istore_n 1, 1) := by decide +kernel
theorem dX5_lets_5 : decode cX5_lets 5 = .ok (.iconst 0, 1) := by decide +kernel
theorem dX5_lets_6 : decode cX5_lets 6 = .ok (.istore_n 2, 1) := by decide +kernel
theorem dX5_lets_7 : decode cX5_lets 7 = .ok (.iload_n 2, 1) := by decide +kernel
theorem dX5_lets_8 : decode cX5_lets 8 = .ok (.aload_n 0, 1) := by decide +kernel
theorem dX5_lets_9 : decode cX5_lets 9 = .ok (.getfield 7, 3) := by decide +kernel
theorem dX5_lets_12 : decode cX5_lets 12 = .ok (.iconst 0, 1) := by decide +kernel
theorem dX5_lets_13 : decode cX5_lets 13 = .ok (.iaload, 1) := by decide +kernel
theorem dX5_lets_14 : decode cX5_lets 14 = .ok (.if_icmp .ge 33, 3) := by decide +kernel
theorem dX5_lets_17 : decode cX5_lets 17 = .ok (.aload_n 0, 1) := by decide +kernel
theorem dX5_lets_18 : decode cX5_lets 18 = .ok (.iconst 0, 1) := by decide +kernel
theorem dX5_lets_19 : decode cX5_lets 19 = .ok (.iload_n 2, 1) := by decide +kernel
theorem dX5_lets_20 : decode cX5_lets 20 = .ok (.invokevirtual 95, 3) := by decide +kernel
theorem dX5_lets_23 : decode cX5_lets 23 = .ok (.iload_n 1, 1) := by decide +kernel
theorem dX5_lets_24 : decode cX5_lets 24 = .ok (.if_icmp .ne 17, 3) := by decide +kernel
theorem dX5_lets_27 : decode cX5_lets 27 = .ok (.aload_n 0, 1) := by decide +kernel
theorem dX5_lets_28 : decode cX5_lets 28 = .ok (.iconst 0, 1) := by decide +kernel
theorem dX5_lets_29 : decode cX5_lets 29 = .ok (.aload_n 0, 1) := by decide +kernel
theorem dX5_lets_30 : decode cX5_lets 30 = .ok (.iconst 0, 1) := by decide +kernel
theorem dX5_lets_31 : decode cX5_lets 31 = .ok (.iload_n 2, 1) := by decide +kernel
theorem dX5_lets_32 : decode cX5_lets 32 = .ok (.invokevirtual 88, 3) := by decide +kernel
theorem dX5_lets_35 : decode cX5_lets 35 = .ok (.invokevirtual 111, 3) := by decide +kernel
theorem dX5_lets_38 : decode cX5_lets 38 = .ok (.goto (-21), 3) := by decide +kernel
theorem dX5_lets_41 : decode cX5_lets 41 = .ok (.iinc 2 1, 3) := by decide +kernel
theorem dX5_lets_44 : decode cX5_lets 44 = .ok (.goto (-37), 3) := by decide +kernel
theorem dX5_lets_47 : decode cX5_lets 47 = .ok (.iconst 0, 1) := by decide +kernel
theorem dX5_lets_48 : decode cX5_lets 48 = .ok (.istore_n 2, 1) := by decide +kernel
theorem dX5_lets_49 : decode cX5_lets 49 = .ok (.iload_n 2, 1) := by decide +kernel
theorem dX5_lets_50 : decode cX5_lets 50 = .ok (.aload_n 0, 1) := by decide +kernel
theorem dX5_lets_51 : decode cX5_lets 51 = .ok (.getfield 7, 3) := by decide +kernel
theorem dX5_lets_54 : decode cX5_lets 54 = .ok (.iconst 1, 1) := by decide +kernel
theorem dX5_lets_55 : decode cX5_lets 55 = .ok (.iaload, 1) := by decide +kernel
theorem dX5_lets_56 : decode cX5_lets 56 = .ok (.if_icmp .ge 55, 3) := by decide +kernel
theorem dX5_lets_59 : decode cX5_lets 59 = .ok (.aload_n 0, 1) := by decide +kernel
theorem dX5_lets_60 : decode cX5_lets 60 = .ok (.getfield 7, 3) := by decide +kernel
theorem dX5_lets_63 : decode cX5_lets 63 = .ok (.iconst 0, 1) := by decide +kernel
theorem dX5_lets_64 : decode cX5_lets 64 = .ok (.iload_n 2, 1) := by decide +kernel
theorem dX5_lets_65 : decode cX5_lets 65 = .ok (.invokestatic 34, 3) := by decide +kernel
theorem dX5_lets_68 : decode cX5_lets 68 = .ok (.iconst 4, 1) := by decide +kernel
theorem dX5_lets_69 : decode cX5_lets 69 = .ok (.iadd, 1) := by decide +kernel
theorem dX5_lets_70 : decode cX5_lets 70 = .ok (.aload_n 0, 1) := by decide +kernel
theorem dX5_lets_71 : decode cX5_lets 71 = .ok (.getfield 7, 3) := by decide +kernel
theorem dX5_lets_74 : decode cX5_lets 74 = .ok (.iconst 0, 1) := by decide +kernel
theorem dX5_lets_75 : decode cX5_lets 75 = .ok (.iload_n 2, 1) := by decide +kernel
theorem dX5_lets_76 : decode cX5_lets 76 = .ok (.invokestatic 34, 3) := by decide +kernel
theorem dX5_lets_79 : decode cX5_lets 79 = .ok (.iconst 4, 1) := by decide +kernel
theorem dX5_lets_80 : decode cX5_lets 80 = .ok (.iadd, 1) := by decide +kernel
theorem dX5_lets_81 : decode cX5_lets 81 = .ok (.iaload, 1) := by decide +kernel
theorem dX5_lets_82 : decode cX5_lets 82 = .ok (.iload_n 1, 1) := by decide +kernel
theorem dX5_lets_83 : decode cX5_lets 83 = .ok (.if_icmp .le 18, 3) := by decide +kernel
theorem dX5_lets_86 : decode cX5_lets 86 = .ok (.aload_n 0, 1) := by decide +kernel
theorem dX5_lets_87 : decode cX5_lets 87 = .ok (.getfield 7, 3) := by decide +kernel
theorem dX5_lets_90 : decode cX5_lets 90 = .ok (.iconst 0, 1) := by decide +kernel
theorem dX5_lets_91 : decode cX5_lets 91 = .ok (.iload_n 2, 1) := by decide +kernel
theorem dX5_lets_92 : decode cX5_lets 92 = .ok (.invokestatic 34, 3) := by decide +kernel
theorem dX5_lets_95 : decode cX5_lets 95 = .ok (.iconst 4, 1) := by decide +kernel
theorem dX5_lets_96 : decode cX5_lets 96 = .ok (.iadd, 1) := by decide +kernel
theorem dX5_lets_97 : decode cX5_lets 97 = .ok (.iaload, 1) := by decide +kernel
theorem dX5_lets_98 : decode cX5_lets 98 = .ok (.goto 6, 3) := by decide +kernel
theorem dX5_lets_101 : decode cX5_lets 101 = .ok (.iload_n 1, 1) := by decide +kernel
theorem dX5_lets_102 : decode cX5_lets 102 = .ok (.iconst 1, 1) := by decide +kernel
theorem dX5_lets_103 : decode cX5_lets 103 = .ok (.iadd, 1) := by decide +kernel
theorem dX5_lets_104 : decode cX5_lets 104 = .ok (.iastore, 1) := by decide +kernel
theorem dX5_lets_105 : decode cX5_lets 105 = .ok (.iinc 2 1, 3) := by decide +kernel
theorem dX5_lets_108 : decode cX5_lets 108 = .ok (.goto (-59), 3) := by decide +kernel
theorem dX5_lets_111 : decode cX5_lets 111 = .ok (.aload_n 0, 1) := by decide +kernel
theorem dX5_lets_112 : decode cX5_lets 112 = .ok (.getfield 7, 3) := by decide +kernel
theorem dX5_lets_115 : decode cX5_lets 115 = .ok (.bipush 6, 2) := by decide +kernel
theorem dX5_lets_117 : decode cX5_lets 117 = .ok (.dup2, 1) := by decide +kernel
theorem dX5_lets_118 : decode cX5_lets 118 = .ok (.iaload, 1) := by decide +kernel
theorem dX5_lets_119 : decode cX5_lets 119 = .ok (.iconst 1, 1) := by decide +kernel
theorem dX5_lets_120 : decode cX5_lets 120 = .ok (.iadd, 1) := by decide +kernel
theorem dX5_lets_121 : decode cX5_lets 121 = .ok (.iastore, 1) := by decide +kernel
theorem dX5_lets_122 : decode cX5_lets 122 = .ok (.iload_n 1, 1) := by decide +kernel
theorem dX5_lets_123 : decode cX5_lets 123 = .ok (.ireturn, 1) := by decide +kernel
theorem dX5_isRing_0 : decode cX5_isRing 0 = .ok (.iconst 0, 1) := by decide +kernel
theorem dX5_isRing_1 : decode cX5_isRing 1 = .ok (.istore_n 1, 1) := by decide +kernel
theorem dX5_isRing_2 : decode cX5_isRing 2 = .ok (.iconst 0, 1) := by decide +kernel
theorem dX5_isRing_3 : decode cX5_isRing 3 = .ok (.istore_n 2, 1) := by decide +kernel
theorem dX5_isRing_4 : decode cX5_isRing 4 = .ok (.iload_n 2, 1) := by decide +kernel
theorem dX5_isRing_5 : decode cX5_isRing 5 = .ok (.aload_n 0, 1) := by decide +kernel
theorem dX5_isRing_6 : decode cX5_isRing 6 = .ok (.getfield 7, 3) := by decide +kernel
theorem dX5_isRing_9 : decode cX5_isRing 9 = .ok (.iconst 0, 1) := by decide +kernel
theorem dX5_isRing_10 : decode cX5_isRing 10 = .ok (.iaload, 1) := by decide +kernel
theorem dX5_isRing_11 : decode cX5_isRing 11 = .ok (.if_icmp .ge 27, 3) := by decide +kernel
theorem dX5_isRing_14 : decode cX5_isRing 14 = .ok (.iload_n 1, 1) := by decide +kernel
theorem dX5_isRing_15 : decode cX5_isRing 15 = .ok (.ifCond .ne 11, 3) := by decide +kernel
theorem dX5_isRing_18 : decode cX5_isRing 18 = .ok (.aload_n 0, 1) := by decide +kernel
theorem dX5_isRing_19 : decode cX5_isRing 19 = .ok (.iload_n 2, 1) := by decide +kernel
theorem dX5_isRing_20 : decode cX5_isRing 20 = .ok (.invokevirtual 122, 3) := by decide +kernel
theorem dX5_isRing_23 : decode cX5_isRing 23 = .ok (.ifCond .ne 7, 3) := by decide +kernel
theorem dX5_isRing_26 : decode cX5_isRing 26 = .ok (.iconst 1, 1) := by decide +kernel
theorem dX5_isRing_27 : decode cX5_isRing 27 = .ok (.goto 4, 3) := by decide +kernel
theorem dX5_isRing_30 : decode cX5_isRing 30 = .ok (.iconst 0, 1) := by decide +kernel
theorem dX5_isRing_31 : decode cX5_isRing 31 = .ok (.istore_n 1, 1) := by decide +kernel
theorem dX5_isRing_32 : decode cX5_isRing 32 = .ok (.iinc 2 1, 3) := by decide +kernel
theorem dX5_isRing_35 : decode cX5_isRing 35 = .ok (.goto (-31), 3) := by decide +kernel
theorem dX5_isRing_38 : decode cX5_isRing 38 = .ok (.iload_n 1, 1) := by decide +kernel
theorem dX5_isRing_39 : decode cX5_isRing 39 = .ok (.ireturn, 1) := by decide +kernel
theorem dX5_canRun_0 : decode cX5_canRun 0 = .ok (.aload_n 0, 1) := by decide +kernel
theorem dX5_canRun_1 : decode cX5_canRun 1 = .ok (.getfield 7, 3) := by decide +kernel
theorem dX5_canRun_4 : decode cX5_canRun 4 = .ok (.iconst 0, 1) := by decide +kernel
theorem dX5_canRun_5 : decode cX5_canRun 5 = .ok (.iaload, 1) := by decide +kernel
theorem dX5_canRun_6 : decode cX5_canRun 6 = .ok (.ifCond .le 24, 3) := by decide +kernel
theorem dX5_canRun_9 : decode cX5_canRun 9 = .ok (.aload_n 0, 1) := by decide +kernel
theorem dX5_canRun_10 : decode cX5_canRun 10 = .ok (.getfield 7, 3) := by decide +kernel
theorem dX5_canRun_13 : decode cX5_canRun 13 = .ok (.iconst 2, 1) := by decide +kernel
theorem dX5_canRun_14 : decode cX5_canRun 14 = .ok (.iaload, 1) := by decide +kernel
theorem dX5_canRun_15 : decode cX5_canRun 15 = .ok (.iconst 1, 1) := by decide +kernel
theorem dX5_canRun_16 : decode cX5_canRun 16 = .ok (.if_icmp .eq 10, 3) := by decide +kernel
theorem dX5_canRun_19 : decode cX5_canRun 19 = .ok (.aload_n 0, 1) := by decide +kernel
theorem dX5_canRun_20 : decode cX5_canRun 20 = .ok (.invokevirtual 125, 3) := by decide +kernel
theorem dX5_canRun_23 : decode cX5_canRun 23 = .ok (.ifCond .ne 7, 3) := by decide +kernel
theorem dX5_canRun_26 : decode cX5_canRun 26 = .ok (.iconst 1, 1) := by decide +kernel
theorem dX5_canRun_27 : decode cX5_canRun 27 = .ok (.goto 4, 3) := by decide +kernel
theorem dX5_canRun_30 : decode cX5_canRun 30 = .ok (.iconst 0, 1) := by decide +kernel
theorem dX5_canRun_31 : decode cX5_canRun 31 = .ok (.ireturn, 1) := by decide +kernel
theorem dX5_run_0 : decode cX5_run 0 = .ok (.iload_n 1, 1) := by decide +kernel
theorem dX5_run_1 : decode cX5_run 1 = .ok (.i2l, 1) := by decide +kernel
theorem dX5_run_2 : decode cX5_run 2 = .ok (.lconst 1, 1) := by decide +kernel
theorem dX5_run_3 : decode cX5_run 3 = .ok (.ldc2_w 129, 3) := by decide +kernel
theorem dX5_run_6 : decode cX5_run 6 = .ok (.invokestatic 23, 3) := by decide +kernel
theorem dX5_run_9 : decode cX5_run 9 = .ok (.ifCond .ne 6, 3) := by decide +kernel
theorem dX5_run_12 : decode cX5_run 12 = .ok (.ldc 29, 2) := by decide +kernel
theorem dX5_run_14 : decode cX5_run 14 = .ok (.ireturn, 1) := by decide +kernel
theorem dX5_run_15 : decode cX5_run 15 = .ok (.aload_n 0, 1) := by decide +kernel
theorem dX5_run_16 : decode cX5_run 16 = .ok (.invokevirtual 131, 3) := by decide +kernel
theorem dX5_run_19 : decode cX5_run 19 = .ok (.ifCond .ne 6, 3) := by decide +kernel
theorem dX5_run_22 : decode cX5_run 22 = .ok (.ldc 48, 2) := by decide +kernel
theorem dX5_run_24 : decode cX5_run 24 = .ok (.ireturn, 1) := by decide +kernel
theorem dX5_run_25 : decode cX5_run 25 = .ok (.aload_n 0, 1) := by decide +kernel
theorem dX5_run_26 : decode cX5_run 26 = .ok (.getfield 7, 3) := by decide +kernel
theorem dX5_run_29 : decode cX5_run 29 = .ok (.iconst 3, 1) := by decide +kernel
theorem dX5_run_30 : decode cX5_run 30 = .ok (.iaload, 1) := by decide +kernel
theorem dX5_run_31 : decode cX5_run 31 = .ok (.istore_n 2, 1) := by decide +kernel
theorem dX5_run_32 : decode cX5_run 32 = .ok (.iconst 1, 1) := by decide +kernel
theorem dX5_run_33 : decode cX5_run 33 = .ok (.istore_n 3, 1) := by decide +kernel
theorem dX5_run_34 : decode cX5_run 34 = .ok (.iconst 0, 1) := by decide +kernel
theorem dX5_run_35 : decode cX5_run 35 = .ok (.istore 4, 2) := by decide +kernel
theorem dX5_run_37 : decode cX5_run 37 = .ok (.iload 4, 2) := by decide +kernel
theorem dX5_run_39 : decode cX5_run 39 = .ok (.iload_n 1, 1) := by decide +kernel
theorem dX5_run_40 : decode cX5_run 40 = .ok (.if_icmp .ge 28, 3) := by decide +kernel
theorem dX5_run_43 : decode cX5_run 43 = .ok (.iload_n 3, 1) := by decide +kernel
theorem dX5_run_44 : decode cX5_run 44 = .ok (.ifCond .eq 24, 3) := by decide +kernel
theorem dX5_run_47 : decode cX5_run 47 = .ok (.aload_n 0, 1) := by decide +kernel
theorem dX5_run_48 : decode cX5_run 48 = .ok (.getfield 7, 3) := by decide +kernel
theorem dX5_run_51 : decode cX5_run 51 = .ok (.bipush 9, 2) := by decide +kernel
theorem dX5_run_53 : decode cX5_run 53 = .ok (.iaload, 1) := by decide +kernel
theorem dX5_run_54 : decode cX5_run 54 = .ok (.ifCond .le 14, 3) := by decide +kernel
theorem dX5_run_57 : decode cX5_run 57 = .ok (.aload_n 0, 1) := by decide +kernel
theorem dX5_run_58 : decode cX5_run 58 = .ok (.invokevirtual 134, 3) := by decide +kernel
theorem dX5_run_61 : decode cX5_run 61 = .ok (.istore_n 3, 1) := by decide +kernel
theorem dX5_run_62 : decode cX5_run 62 = .ok (.iinc 4 1, 3) := by decide +kernel
theorem dX5_run_65 : decode cX5_run 65 = .ok (.goto (-28), 3) := by decide +kernel
theorem dX5_run_68 : decode cX5_run 68 = .ok (.aload_n 0, 1) := by decide +kernel
theorem dX5_run_69 : decode cX5_run 69 = .ok (.getfield 7, 3) := by decide +kernel
theorem dX5_run_72 : decode cX5_run 72 = .ok (.iconst 3, 1) := by decide +kernel
theorem dX5_run_73 : decode cX5_run 73 = .ok (.iaload, 1) := by decide +kernel
theorem dX5_run_74 : decode cX5_run 74 = .ok (.iload_n 2, 1) := by decide +kernel
theorem dX5_run_75 : decode cX5_run 75 = .ok (.isub, 1) := by decide +kernel
theorem dX5_run_76 : decode cX5_run 76 = .ok (.ireturn, 1) := by decide +kernel
theorem dX5_allMay_0 : decode cX5_allMay 0 = .ok (.iconst 0, 1) := by decide +kernel
theorem dX5_allMay_1 : decode cX5_allMay 1 = .ok (.istore_n 1, 1) := by decide +kernel
theorem dX5_allMay_2 : decode cX5_allMay 2 = .ok (.iconst 0, 1) := by decide +kernel
theorem dX5_allMay_3 : decode cX5_allMay 3 = .ok (.istore_n 2, 1) := by decide +kernel
theorem dX5_allMay_4 : decode cX5_allMay 4 = .ok (.iload_n 2, 1) := by decide +kernel
theorem dX5_allMay_5 : decode cX5_allMay 5 = .ok (.aload_n 0, 1) := by decide +kernel
theorem dX5_allMay_6 : decode cX5_allMay 6 = .ok (.getfield 7, 3) := by decide +kernel
theorem dX5_allMay_9 : decode cX5_allMay 9 = .ok (.iconst 0, 1) := by decide +kernel
theorem dX5_allMay_10 : decode cX5_allMay 10 = .ok (.iaload, 1) := by decide +kernel
theorem dX5_allMay_11 : decode cX5_allMay 11 = .ok (.if_icmp .ge 27, 3) := by decide +kernel
theorem dX5_allMay_14 : decode cX5_allMay 14 = .ok (.iload_n 1, 1) := by decide +kernel
theorem dX5_allMay_15 : decode cX5_allMay 15 = .ok (.aload_n 0, 1) := by decide +kernel
theorem dX5_allMay_16 : decode cX5_allMay 16 = .ok (.iload_n 2, 1) := by decide +kernel
theorem dX5_allMay_17 : decode cX5_allMay 17 = .ok (.invokevirtual 108, 3) := by decide +kernel
theorem dX5_allMay_20 : decode cX5_allMay 20 = .ok (.ifCond .eq 9, 3) := by decide +kernel
theorem dX5_allMay_23 : decode cX5_allMay 23 = .ok (.iconst 1, 1) := by decide +kernel
theorem dX5_allMay_24 : decode cX5_allMay 24 = .ok (.iload_n 2, 1) := by decide +kernel
theorem dX5_allMay_25 : decode cX5_allMay 25 = .ok (.ishl, 1) := by decide +kernel
theorem dX5_allMay_26 : decode cX5_allMay 26 = .ok (.goto 4, 3) := by decide +kernel
theorem dX5_allMay_29 : decode cX5_allMay 29 = .ok (.iconst 0, 1) := by decide +kernel
theorem dX5_allMay_30 : decode cX5_allMay 30 = .ok (.ior, 1) := by decide +kernel
theorem dX5_allMay_31 : decode cX5_allMay 31 = .ok (.istore_n 1, 1) := by decide +kernel
theorem dX5_allMay_32 : decode cX5_allMay 32 = .ok (.iinc 2 1, 3) := by decide +kernel
theorem dX5_allMay_35 : decode cX5_allMay 35 = .ok (.goto (-31), 3) := by decide +kernel
theorem dX5_allMay_38 : decode cX5_allMay 38 = .ok (.iload_n 1, 1) := by decide +kernel
theorem dX5_allMay_39 : decode cX5_allMay 39 = .ok (.ireturn, 1) := by decide +kernel
theorem dX5_letGo_0 : decode cX5_letGo 0 = .ok (.aload_n 0, 1) := by decide +kernel
theorem dX5_letGo_1 : decode cX5_letGo 1 = .ok (.getfield 7, 3) := by decide +kernel
theorem dX5_letGo_4 : decode cX5_letGo 4 = .ok (.bipush 9, 2) := by decide +kernel
theorem dX5_letGo_6 : decode cX5_letGo 6 = .ok (.iaload, 1) := by decide +kernel
theorem dX5_letGo_7 : decode cX5_letGo 7 = .ok (.ifCond .eq 10, 3) := by decide +kernel
theorem dX5_letGo_10 : decode cX5_letGo 10 = .ok (.aload_n 0, 1) := by decide +kernel
theorem dX5_letGo_11 : decode cX5_letGo 11 = .ok (.invokevirtual 137, 3) := by decide +kernel
theorem dX5_letGo_14 : decode cX5_letGo 14 = .ok (.ifCond .eq 8, 3) := by decide +kernel
theorem dX5_letGo_17 : decode cX5_letGo 17 = .ok (.ldc 48, 2) := by decide +kernel
theorem dX5_letGo_19 : decode cX5_letGo 19 = .ok (.goto 7, 3) := by decide +kernel
theorem dX5_letGo_22 : decode cX5_letGo 22 = .ok (.aload_n 0, 1) := by decide +kernel
theorem dX5_letGo_23 : decode cX5_letGo 23 = .ok (.invokevirtual 140, 3) := by decide +kernel
theorem dX5_letGo_26 : decode cX5_letGo 26 = .ok (.ireturn, 1) := by decide +kernel
theorem dX5_finish_0 : decode cX5_finish 0 = .ok (.aload_n 0, 1) := by decide +kernel
theorem dX5_finish_1 : decode cX5_finish 1 = .ok (.invokevirtual 131, 3) := by decide +kernel
theorem dX5_finish_4 : decode cX5_finish 4 = .ok (.ifCond .ne 6, 3) := by decide +kernel
theorem dX5_finish_7 : decode cX5_finish 7 = .ok (.ldc 48, 2) := by decide +kernel
theorem dX5_finish_9 : decode cX5_finish 9 = .ok (.ireturn, 1) := by decide +kernel
theorem dX5_finish_10 : decode cX5_finish 10 = .ok (.aload_n 0, 1) := by decide +kernel
theorem dX5_finish_11 : decode cX5_finish 11 = .ok (.getfield 7, 3) := by decide +kernel
theorem dX5_finish_14 : decode cX5_finish 14 = .ok (.iconst 3, 1) := by decide +kernel
theorem dX5_finish_15 : decode cX5_finish 15 = .ok (.iaload, 1) := by decide +kernel
theorem dX5_finish_16 : decode cX5_finish 16 = .ok (.istore_n 1, 1) := by decide +kernel
theorem dX5_finish_17 : decode cX5_finish 17 = .ok (.sipush 400, 3) := by decide +kernel
theorem dX5_finish_20 : decode cX5_finish 20 = .ok (.istore_n 2, 1) := by decide +kernel
theorem dX5_finish_21 : decode cX5_finish 21 = .ok (.iload_n 2, 1) := by decide +kernel
theorem dX5_finish_22 : decode cX5_finish 22 = .ok (.ifCond .le 51, 3) := by decide +kernel
theorem dX5_finish_25 : decode cX5_finish 25 = .ok (.aload_n 0, 1) := by decide +kernel
theorem dX5_finish_26 : decode cX5_finish 26 = .ok (.getfield 7, 3) := by decide +kernel
theorem dX5_finish_29 : decode cX5_finish 29 = .ok (.bipush 9, 2) := by decide +kernel
theorem dX5_finish_31 : decode cX5_finish 31 = .ok (.iaload, 1) := by decide +kernel
theorem dX5_finish_32 : decode cX5_finish 32 = .ok (.ifCond .le 41, 3) := by decide +kernel
theorem dX5_finish_35 : decode cX5_finish 35 = .ok (.aload_n 0, 1) := by decide +kernel
theorem dX5_finish_36 : decode cX5_finish 36 = .ok (.invokevirtual 134, 3) := by decide +kernel
theorem dX5_finish_39 : decode cX5_finish 39 = .ok (.istore_n 3, 1) := by decide +kernel
theorem dX5_finish_40 : decode cX5_finish 40 = .ok (.iinc 2 (-1), 3) := by decide +kernel
theorem dX5_finish_43 : decode cX5_finish 43 = .ok (.iload_n 3, 1) := by decide +kernel
theorem dX5_finish_44 : decode cX5_finish 44 = .ok (.ifCond .ne 26, 3) := by decide +kernel
theorem dX5_finish_47 : decode cX5_finish 47 = .ok (.iload_n 2, 1) := by decide +kernel
theorem dX5_finish_48 : decode cX5_finish 48 = .ok (.ifCond .le 22, 3) := by decide +kernel
theorem dX5_finish_51 : decode cX5_finish 51 = .ok (.aload_n 0, 1) := by decide +kernel
theorem dX5_finish_52 : decode cX5_finish 52 = .ok (.invokevirtual 140, 3) := by decide +kernel
theorem dX5_finish_55 : decode cX5_finish 55 = .ok (.istore 4, 2) := by decide +kernel
theorem dX5_finish_57 : decode cX5_finish 57 = .ok (.iload_n 2, 1) := by decide +kernel
theorem dX5_finish_58 : decode cX5_finish 58 = .ok (.iload 4, 2) := by decide +kernel
theorem dX5_finish_60 : decode cX5_finish 60 = .ok (.ifCond .ge 7, 3) := by decide +kernel
theorem dX5_finish_63 : decode cX5_finish 63 = .ok (.iconst 0, 1) := by decide +kernel
theorem dX5_finish_64 : decode cX5_finish 64 = .ok (.goto 4, 3) := by decide +kernel
theorem dX5_finish_67 : decode cX5_finish 67 = .ok (.iconst 1, 1) := by decide +kernel
theorem dX5_finish_68 : decode cX5_finish 68 = .ok (.isub, 1) := by decide +kernel
theorem dX5_finish_69 : decode cX5_finish 69 = .ok (.istore_n 2, 1) := by decide +kernel
theorem dX5_finish_70 : decode cX5_finish 70 = .ok (.goto (-49), 3) := by decide +kernel
theorem dX5_finish_73 : decode cX5_finish 73 = .ok (.aload_n 0, 1) := by decide +kernel
theorem dX5_finish_74 : decode cX5_finish 74 = .ok (.getfield 7, 3) := by decide +kernel
theorem dX5_finish_77 : decode cX5_finish 77 = .ok (.iconst 3, 1) := by decide +kernel
theorem dX5_finish_78 : decode cX5_finish 78 = .ok (.iaload, 1) := by decide +kernel
theorem dX5_finish_79 : decode cX5_finish 79 = .ok (.iload_n 1, 1) := by decide +kernel
theorem dX5_finish_80 : decode cX5_finish 80 = .ok (.isub, 1) := by decide +kernel
theorem dX5_finish_81 : decode cX5_finish 81 = .ok (.ireturn, 1) := by decide +kernel
theorem dX5_told_0 : decode cX5_told 0 = .ok (.iload_n 1, 1) := by decide +kernel
theorem dX5_told_1 : decode cX5_told 1 = .ok (.tableswitch 161 0 12 #[67, 74, 81, 88, 96, 103, 110, 117, 125, 130, 135, 140, 153], 67) := by decide +kernel
theorem dX5_told_68 : decode cX5_told 68 = .ok (.aload_n 0, 1) := by decide +kernel
theorem dX5_told_69 : decode cX5_told 69 = .ok (.getfield 7, 3) := by decide +kernel
theorem dX5_told_72 : decode cX5_told 72 = .ok (.iconst 0, 1) := by decide +kernel
theorem dX5_told_73 : decode cX5_told 73 = .ok (.iaload, 1) := by decide +kernel
theorem dX5_told_74 : decode cX5_told 74 = .ok (.ireturn, 1) := by decide +kernel
theorem dX5_told_75 : decode cX5_told 75 = .ok (.aload_n 0, 1) := by decide +kernel
theorem dX5_told_76 : decode cX5_told 76 = .ok (.getfield 7, 3) := by decide +kernel
theorem dX5_told_79 : decode cX5_told 79 = .ok (.iconst 1, 1) := by decide +kernel
theorem dX5_told_80 : decode cX5_told 80 = .ok (.iaload, 1) := by decide +kernel
theorem dX5_told_81 : decode cX5_told 81 = .ok (.ireturn, 1) := by decide +kernel
theorem dX5_told_82 : decode cX5_told 82 = .ok (.aload_n 0, 1) := by decide +kernel
theorem dX5_told_83 : decode cX5_told 83 = .ok (.getfield 7, 3) := by decide +kernel
theorem dX5_told_86 : decode cX5_told 86 = .ok (.iconst 2, 1) := by decide +kernel
theorem dX5_told_87 : decode cX5_told 87 = .ok (.iaload, 1) := by decide +kernel
theorem dX5_told_88 : decode cX5_told 88 = .ok (.ireturn, 1) := by decide +kernel
theorem dX5_told_89 : decode cX5_told 89 = .ok (.aload_n 0, 1) := by decide +kernel
theorem dX5_told_90 : decode cX5_told 90 = .ok (.getfield 7, 3) := by decide +kernel
theorem dX5_told_93 : decode cX5_told 93 = .ok (.bipush 9, 2) := by decide +kernel
theorem dX5_told_95 : decode cX5_told 95 = .ok (.iaload, 1) := by decide +kernel
theorem dX5_told_96 : decode cX5_told 96 = .ok (.ireturn, 1) := by decide +kernel
theorem dX5_told_97 : decode cX5_told 97 = .ok (.aload_n 0, 1) := by decide +kernel
theorem dX5_told_98 : decode cX5_told 98 = .ok (.getfield 7, 3) := by decide +kernel
theorem dX5_told_101 : decode cX5_told 101 = .ok (.iconst 3, 1) := by decide +kernel
theorem dX5_told_102 : decode cX5_told 102 = .ok (.iaload, 1) := by decide +kernel
theorem dX5_told_103 : decode cX5_told 103 = .ok (.ireturn, 1) := by decide +kernel
theorem dX5_told_104 : decode cX5_told 104 = .ok (.aload_n 0, 1) := by decide +kernel
theorem dX5_told_105 : decode cX5_told 105 = .ok (.getfield 7, 3) := by decide +kernel
theorem dX5_told_108 : decode cX5_told 108 = .ok (.iconst 4, 1) := by decide +kernel
theorem dX5_told_109 : decode cX5_told 109 = .ok (.iaload, 1) := by decide +kernel
theorem dX5_told_110 : decode cX5_told 110 = .ok (.ireturn, 1) := by decide +kernel
theorem dX5_told_111 : decode cX5_told 111 = .ok (.aload_n 0, 1) := by decide +kernel
theorem dX5_told_112 : decode cX5_told 112 = .ok (.getfield 7, 3) := by decide +kernel
theorem dX5_told_115 : decode cX5_told 115 = .ok (.iconst 5, 1) := by decide +kernel
theorem dX5_told_116 : decode cX5_told 116 = .ok (.iaload, 1) := by decide +kernel
theorem dX5_told_117 : decode cX5_told 117 = .ok (.ireturn, 1) := by decide +kernel
theorem dX5_told_118 : decode cX5_told 118 = .ok (.aload_n 0, 1) := by decide +kernel
theorem dX5_told_119 : decode cX5_told 119 = .ok (.getfield 7, 3) := by decide +kernel
theorem dX5_told_122 : decode cX5_told 122 = .ok (.bipush 6, 2) := by decide +kernel
theorem dX5_told_124 : decode cX5_told 124 = .ok (.iaload, 1) := by decide +kernel
theorem dX5_told_125 : decode cX5_told 125 = .ok (.ireturn, 1) := by decide +kernel
theorem dX5_told_126 : decode cX5_told 126 = .ok (.aload_n 0, 1) := by decide +kernel
theorem dX5_told_127 : decode cX5_told 127 = .ok (.invokevirtual 137, 3) := by decide +kernel
theorem dX5_told_130 : decode cX5_told 130 = .ok (.ireturn, 1) := by decide +kernel
theorem dX5_told_131 : decode cX5_told 131 = .ok (.aload_n 0, 1) := by decide +kernel
theorem dX5_told_132 : decode cX5_told 132 = .ok (.invokevirtual 118, 3) := by decide +kernel
theorem dX5_told_135 : decode cX5_told 135 = .ok (.ireturn, 1) := by decide +kernel
theorem dX5_told_136 : decode cX5_told 136 = .ok (.aload_n 0, 1) := by decide +kernel
theorem dX5_told_137 : decode cX5_told 137 = .ok (.getfield 30, 3) := by decide +kernel
theorem dX5_told_140 : decode cX5_told 140 = .ok (.ireturn, 1) := by decide +kernel
theorem dX5_told_141 : decode cX5_told 141 = .ok (.aload_n 0, 1) := by decide +kernel
theorem dX5_told_142 : decode cX5_told 142 = .ok (.invokevirtual 125, 3) := by decide +kernel
theorem dX5_told_145 : decode cX5_told 145 = .ok (.ifCond .eq 7, 3) := by decide +kernel
theorem dX5_told_148 : decode cX5_told 148 = .ok (.iconst 1, 1) := by decide +kernel
theorem dX5_told_149 : decode cX5_told 149 = .ok (.goto 4, 3) := by decide +kernel
theorem dX5_told_152 : decode cX5_told 152 = .ok (.iconst 0, 1) := by decide +kernel
theorem dX5_told_153 : decode cX5_told 153 = .ok (.ireturn, 1) := by decide +kernel
theorem dX5_told_154 : decode cX5_told 154 = .ok (.aload_n 0, 1) := by decide +kernel
theorem dX5_told_155 : decode cX5_told 155 = .ok (.getfield 7, 3) := by decide +kernel
theorem dX5_told_158 : decode cX5_told 158 = .ok (.bipush 7, 2) := by decide +kernel
theorem dX5_told_160 : decode cX5_told 160 = .ok (.iaload, 1) := by decide +kernel
theorem dX5_told_161 : decode cX5_told 161 = .ok (.ireturn, 1) := by decide +kernel
theorem dX5_told_162 : decode cX5_told 162 = .ok (.ldc 29, 2) := by decide +kernel
theorem dX5_told_164 : decode cX5_told 164 = .ok (.ireturn, 1) := by decide +kernel
theorem dX5_waitsBy_0 : decode cX5_waitsBy 0 = .ok (.aload_n 0, 1) := by decide +kernel
theorem dX5_waitsBy_1 : decode cX5_waitsBy 1 = .ok (.iconst 0, 1) := by decide +kernel
theorem dX5_waitsBy_2 : decode cX5_waitsBy 2 = .ok (.iload_n 1, 1) := by decide +kernel
theorem dX5_waitsBy_3 : decode cX5_waitsBy 3 = .ok (.invokevirtual 88, 3) := by decide +kernel
theorem dX5_waitsBy_6 : decode cX5_waitsBy 6 = .ok (.iconst (-1), 1) := by decide +kernel
theorem dX5_waitsBy_7 : decode cX5_waitsBy 7 = .ok (.if_icmp .eq 11, 3) := by decide +kernel
theorem dX5_waitsBy_10 : decode cX5_waitsBy 10 = .ok (.aload_n 0, 1) := by decide +kernel
theorem dX5_waitsBy_11 : decode cX5_waitsBy 11 = .ok (.iload_n 1, 1) := by decide +kernel
theorem dX5_waitsBy_12 : decode cX5_waitsBy 12 = .ok (.invokevirtual 108, 3) := by decide +kernel
theorem dX5_waitsBy_15 : decode cX5_waitsBy 15 = .ok (.ifCond .eq 7, 3) := by decide +kernel
theorem dX5_waitsBy_18 : decode cX5_waitsBy 18 = .ok (.iconst (-1), 1) := by decide +kernel
theorem dX5_waitsBy_19 : decode cX5_waitsBy 19 = .ok (.goto 8, 3) := by decide +kernel
theorem dX5_waitsBy_22 : decode cX5_waitsBy 22 = .ok (.aload_n 0, 1) := by decide +kernel
theorem dX5_waitsBy_23 : decode cX5_waitsBy 23 = .ok (.iload_n 1, 1) := by decide +kernel
theorem dX5_waitsBy_24 : decode cX5_waitsBy 24 = .ok (.invokevirtual 92, 3) := by decide +kernel
theorem dX5_waitsBy_27 : decode cX5_waitsBy 27 = .ok (.ireturn, 1) := by decide +kernel
theorem dX5_waysTo_0 : decode cX5_waysTo 0 = .ok (.iconst 0, 1) := by decide +kernel
theorem dX5_waysTo_1 : decode cX5_waysTo 1 = .ok (.istore_n 2, 1) := by decide +kernel
theorem dX5_waysTo_2 : decode cX5_waysTo 2 = .ok (.iconst 0, 1) := by decide +kernel
theorem dX5_waysTo_3 : decode cX5_waysTo 3 = .ok (.istore_n 3, 1) := by decide +kernel
theorem dX5_waysTo_4 : decode cX5_waysTo 4 = .ok (.iload_n 3, 1) := by decide +kernel
theorem dX5_waysTo_5 : decode cX5_waysTo 5 = .ok (.aload_n 0, 1) := by decide +kernel
theorem dX5_waysTo_6 : decode cX5_waysTo 6 = .ok (.getfield 7, 3) := by decide +kernel
theorem dX5_waysTo_9 : decode cX5_waysTo 9 = .ok (.iconst 1, 1) := by decide +kernel
theorem dX5_waysTo_10 : decode cX5_waysTo 10 = .ok (.iaload, 1) := by decide +kernel
theorem dX5_waysTo_11 : decode cX5_waysTo 11 = .ok (.if_icmp .ge 33, 3) := by decide +kernel
theorem dX5_waysTo_14 : decode cX5_waysTo 14 = .ok (.iload_n 2, 1) := by decide +kernel
theorem dX5_waysTo_15 : decode cX5_waysTo 15 = .ok (.aload_n 0, 1) := by decide +kernel
theorem dX5_waysTo_16 : decode cX5_waysTo 16 = .ok (.getfield 7, 3) := by decide +kernel
theorem dX5_waysTo_19 : decode cX5_waysTo 19 = .ok (.iconst 0, 1) := by decide +kernel
theorem dX5_waysTo_20 : decode cX5_waysTo 20 = .ok (.iload_n 3, 1) := by decide +kernel
theorem dX5_waysTo_21 : decode cX5_waysTo 21 = .ok (.invokestatic 34, 3) := by decide +kernel
theorem dX5_waysTo_24 : decode cX5_waysTo 24 = .ok (.iconst 1, 1) := by decide +kernel
theorem dX5_waysTo_25 : decode cX5_waysTo 25 = .ok (.iadd, 1) := by decide +kernel
theorem dX5_waysTo_26 : decode cX5_waysTo 26 = .ok (.iaload, 1) := by decide +kernel
theorem dX5_waysTo_27 : decode cX5_waysTo 27 = .ok (.iload_n 1, 1) := by decide +kernel
theorem dX5_waysTo_28 : decode cX5_waysTo 28 = .ok (.if_icmp .ne 7, 3) := by decide +kernel
theorem dX5_waysTo_31 : decode cX5_waysTo 31 = .ok (.iconst 1, 1) := by decide +kernel
theorem dX5_waysTo_32 : decode cX5_waysTo 32 = .ok (.goto 4, 3) := by decide +kernel
theorem dX5_waysTo_35 : decode cX5_waysTo 35 = .ok (.iconst 0, 1) := by decide +kernel
theorem dX5_waysTo_36 : decode cX5_waysTo 36 = .ok (.iadd, 1) := by decide +kernel
theorem dX5_waysTo_37 : decode cX5_waysTo 37 = .ok (.istore_n 2, 1) := by decide +kernel
theorem dX5_waysTo_38 : decode cX5_waysTo 38 = .ok (.iinc 3 1, 3) := by decide +kernel
theorem dX5_waysTo_41 : decode cX5_waysTo 41 = .ok (.goto (-37), 3) := by decide +kernel
theorem dX5_waysTo_44 : decode cX5_waysTo 44 = .ok (.iload_n 2, 1) := by decide +kernel
theorem dX5_waysTo_45 : decode cX5_waysTo 45 = .ok (.ireturn, 1) := by decide +kernel
theorem dX5_firstValue_0 : decode cX5_firstValue 0 = .ok (.aload_n 0, 1) := by decide +kernel
theorem dX5_firstValue_1 : decode cX5_firstValue 1 = .ok (.iconst 0, 1) := by decide +kernel
theorem dX5_firstValue_2 : decode cX5_firstValue 2 = .ok (.iload_n 1, 1) := by decide +kernel
theorem dX5_firstValue_3 : decode cX5_firstValue 3 = .ok (.invokevirtual 88, 3) := by decide +kernel
theorem dX5_firstValue_6 : decode cX5_firstValue 6 = .ok (.istore_n 2, 1) := by decide +kernel
theorem dX5_firstValue_7 : decode cX5_firstValue 7 = .ok (.iload_n 2, 1) := by decide +kernel
theorem dX5_firstValue_8 : decode cX5_firstValue 8 = .ok (.iconst (-1), 1) := by decide +kernel
theorem dX5_firstValue_9 : decode cX5_firstValue 9 = .ok (.if_icmp .ne 7, 3) := by decide +kernel
theorem dX5_firstValue_12 : decode cX5_firstValue 12 = .ok (.iconst (-1), 1) := by decide +kernel
theorem dX5_firstValue_13 : decode cX5_firstValue 13 = .ok (.goto 11, 3) := by decide +kernel
theorem dX5_firstValue_16 : decode cX5_firstValue 16 = .ok (.aload_n 0, 1) := by decide +kernel
theorem dX5_firstValue_17 : decode cX5_firstValue 17 = .ok (.getfield 7, 3) := by decide +kernel
theorem dX5_firstValue_20 : decode cX5_firstValue 20 = .ok (.iload_n 2, 1) := by decide +kernel
theorem dX5_firstValue_21 : decode cX5_firstValue 21 = .ok (.iconst 3, 1) := by decide +kernel
theorem dX5_firstValue_22 : decode cX5_firstValue 22 = .ok (.iadd, 1) := by decide +kernel
theorem dX5_firstValue_23 : decode cX5_firstValue 23 = .ok (.iaload, 1) := by decide +kernel
theorem dX5_firstValue_24 : decode cX5_firstValue 24 = .ok (.ireturn, 1) := by decide +kernel
theorem dX5_part_0 : decode cX5_part 0 = .ok (.aload_n 0, 1) := by decide +kernel
theorem dX5_part_1 : decode cX5_part 1 = .ok (.iload_n 1, 1) := by decide +kernel
theorem dX5_part_2 : decode cX5_part 2 = .ok (.invokevirtual 38, 3) := by decide +kernel
theorem dX5_part_5 : decode cX5_part 5 = .ok (.ifCond .ne 6, 3) := by decide +kernel
theorem dX5_part_8 : decode cX5_part 8 = .ok (.ldc 42, 2) := by decide +kernel
theorem dX5_part_10 : decode cX5_part 10 = .ok (.ireturn, 1) := by decide +kernel
theorem dX5_part_11 : decode cX5_part 11 = .ok (.iload_n 2, 1) := by decide +kernel
theorem dX5_part_12 : decode cX5_part 12 = .ok (.tableswitch 149 0 10 #[60, 70, 80, 90, 96, 103, 110, 116, 130, 136, 143], 60) := by decide +kernel
theorem dX5_part_72 : decode cX5_part 72 = .ok (.aload_n 0, 1) := by decide +kernel
theorem dX5_part_73 : decode cX5_part 73 = .ok (.getfield 7, 3) := by decide +kernel
theorem dX5_part_76 : decode cX5_part 76 = .ok (.bipush 10, 2) := by decide +kernel
theorem dX5_part_78 : decode cX5_part 78 = .ok (.iload_n 1, 1) := by decide +kernel
theorem dX5_part_79 : decode cX5_part 79 = .ok (.iadd, 1) := by decide +kernel
theorem dX5_part_80 : decode cX5_part 80 = .ok (.iaload, 1) := by decide +kernel
theorem dX5_part_81 : decode cX5_part 81 = .ok (.ireturn, 1) := by decide +kernel
theorem dX5_part_82 : decode cX5_part 82 = .ok (.aload_n 0, 1) := by decide +kernel
theorem dX5_part_83 : decode cX5_part 83 = .ok (.getfield 7, 3) := by decide +kernel
theorem dX5_part_86 : decode cX5_part 86 = .ok (.bipush 16, 2) := by decide +kernel
theorem dX5_part_88 : decode cX5_part 88 = .ok (.iload_n 1, 1) := by decide +kernel
theorem dX5_part_89 : decode cX5_part 89 = .ok (.iadd, 1) := by decide +kernel
theorem dX5_part_90 : decode cX5_part 90 = .ok (.iaload, 1) := by decide +kernel
theorem dX5_part_91 : decode cX5_part 91 = .ok (.ireturn, 1) := by decide +kernel
theorem dX5_part_92 : decode cX5_part 92 = .ok (.aload_n 0, 1) := by decide +kernel
theorem dX5_part_93 : decode cX5_part 93 = .ok (.getfield 7, 3) := by decide +kernel
theorem dX5_part_96 : decode cX5_part 96 = .ok (.bipush 22, 2) := by decide +kernel
theorem dX5_part_98 : decode cX5_part 98 = .ok (.iload_n 1, 1) := by decide +kernel
theorem dX5_part_99 : decode cX5_part 99 = .ok (.iadd, 1) := by decide +kernel
theorem dX5_part_100 : decode cX5_part 100 = .ok (.iaload, 1) := by decide +kernel
theorem dX5_part_101 : decode cX5_part 101 = .ok (.ireturn, 1) := by decide +kernel
theorem dX5_part_102 : decode cX5_part 102 = .ok (.aload_n 0, 1) := by decide +kernel
theorem dX5_part_103 : decode cX5_part 103 = .ok (.iload_n 1, 1) := by decide +kernel
theorem dX5_part_104 : decode cX5_part 104 = .ok (.invokevirtual 98, 3) := by decide +kernel
theorem dX5_part_107 : decode cX5_part 107 = .ok (.ireturn, 1) := by decide +kernel
theorem dX5_part_108 : decode cX5_part 108 = .ok (.aload_n 0, 1) := by decide +kernel
theorem dX5_part_109 : decode cX5_part 109 = .ok (.iconst 0, 1) := by decide +kernel
theorem dX5_part_110 : decode cX5_part 110 = .ok (.iload_n 1, 1) := by decide +kernel
theorem dX5_part_111 : decode cX5_part 111 = .ok (.invokevirtual 60, 3) := by decide +kernel
theorem dX5_part_114 : decode cX5_part 114 = .ok (.ireturn, 1) := by decide +kernel
theorem dX5_part_115 : decode cX5_part 115 = .ok (.aload_n 0, 1) := by decide +kernel
theorem dX5_part_116 : decode cX5_part 116 = .ok (.iconst 0, 1) := by decide +kernel
theorem dX5_part_117 : decode cX5_part 117 = .ok (.iload_n 1, 1) := by decide +kernel
theorem dX5_part_118 : decode cX5_part 118 = .ok (.invokevirtual 95, 3) := by decide +kernel
theorem dX5_part_121 : decode cX5_part 121 = .ok (.ireturn, 1) := by decide +kernel
theorem dX5_part_122 : decode cX5_part 122 = .ok (.aload_n 0, 1) := by decide +kernel
theorem dX5_part_123 : decode cX5_part 123 = .ok (.iload_n 1, 1) := by decide +kernel
theorem dX5_part_124 : decode cX5_part 124 = .ok (.invokevirtual 143, 3) := by decide +kernel
theorem dX5_part_127 : decode cX5_part 127 = .ok (.ireturn, 1) := by decide +kernel
theorem dX5_part_128 : decode cX5_part 128 = .ok (.aload_n 0, 1) := by decide +kernel
theorem dX5_part_129 : decode cX5_part 129 = .ok (.iload_n 1, 1) := by decide +kernel
theorem dX5_part_130 : decode cX5_part 130 = .ok (.invokevirtual 108, 3) := by decide +kernel
theorem dX5_part_133 : decode cX5_part 133 = .ok (.ifCond .eq 7, 3) := by decide +kernel
theorem dX5_part_136 : decode cX5_part 136 = .ok (.iconst 1, 1) := by decide +kernel
theorem dX5_part_137 : decode cX5_part 137 = .ok (.goto 4, 3) := by decide +kernel
theorem dX5_part_140 : decode cX5_part 140 = .ok (.iconst 0, 1) := by decide +kernel
theorem dX5_part_141 : decode cX5_part 141 = .ok (.ireturn, 1) := by decide +kernel
theorem dX5_part_142 : decode cX5_part 142 = .ok (.aload_n 0, 1) := by decide +kernel
theorem dX5_part_143 : decode cX5_part 143 = .ok (.iload_n 1, 1) := by decide +kernel
theorem dX5_part_144 : decode cX5_part 144 = .ok (.invokevirtual 146, 3) := by decide +kernel
theorem dX5_part_147 : decode cX5_part 147 = .ok (.ireturn, 1) := by decide +kernel
theorem dX5_part_148 : decode cX5_part 148 = .ok (.aload_n 0, 1) := by decide +kernel
theorem dX5_part_149 : decode cX5_part 149 = .ok (.iconst 0, 1) := by decide +kernel
theorem dX5_part_150 : decode cX5_part 150 = .ok (.iload_n 1, 1) := by decide +kernel
theorem dX5_part_151 : decode cX5_part 151 = .ok (.invokevirtual 102, 3) := by decide +kernel
theorem dX5_part_154 : decode cX5_part 154 = .ok (.ireturn, 1) := by decide +kernel
theorem dX5_part_155 : decode cX5_part 155 = .ok (.aload_n 0, 1) := by decide +kernel
theorem dX5_part_156 : decode cX5_part 156 = .ok (.iload_n 1, 1) := by decide +kernel
theorem dX5_part_157 : decode cX5_part 157 = .ok (.invokevirtual 149, 3) := by decide +kernel
theorem dX5_part_160 : decode cX5_part 160 = .ok (.ireturn, 1) := by decide +kernel
theorem dX5_part_161 : decode cX5_part 161 = .ok (.ldc 29, 2) := by decide +kernel
theorem dX5_part_163 : decode cX5_part 163 = .ok (.ireturn, 1) := by decide +kernel
theorem dX5_channelOf_0 : decode cX5_channelOf 0 = .ok (.aload_n 0, 1) := by decide +kernel
theorem dX5_channelOf_1 : decode cX5_channelOf 1 = .ok (.iload_n 1, 1) := by decide +kernel
theorem dX5_channelOf_2 : decode cX5_channelOf 2 = .ok (.invokevirtual 152, 3) := by decide +kernel
theorem dX5_channelOf_5 : decode cX5_channelOf 5 = .ok (.ifCond .ne 6, 3) := by decide +kernel
theorem dX5_channelOf_8 : decode cX5_channelOf 8 = .ok (.ldc 42, 2) := by decide +kernel
theorem dX5_channelOf_10 : decode cX5_channelOf 10 = .ok (.ireturn, 1) := by decide +kernel
theorem dX5_channelOf_11 : decode cX5_channelOf 11 = .ok (.iload_n 2, 1) := by decide +kernel
theorem dX5_channelOf_12 : decode cX5_channelOf 12 = .ok (.i2l, 1) := by decide +kernel
theorem dX5_channelOf_13 : decode cX5_channelOf 13 = .ok (.lconst 0, 1) := by decide +kernel
theorem dX5_channelOf_14 : decode cX5_channelOf 14 = .ok (.ldc2_w 27, 3) := by decide +kernel
theorem dX5_channelOf_17 : decode cX5_channelOf 17 = .ok (.invokestatic 23, 3) := by decide +kernel
theorem dX5_channelOf_20 : decode cX5_channelOf 20 = .ok (.ifCond .eq 18, 3) := by decide +kernel
theorem dX5_channelOf_23 : decode cX5_channelOf 23 = .ok (.aload_n 0, 1) := by decide +kernel
theorem dX5_channelOf_24 : decode cX5_channelOf 24 = .ok (.getfield 7, 3) := by decide +kernel
theorem dX5_channelOf_27 : decode cX5_channelOf 27 = .ok (.iconst 0, 1) := by decide +kernel
theorem dX5_channelOf_28 : decode cX5_channelOf 28 = .ok (.iload_n 1, 1) := by decide +kernel
theorem dX5_channelOf_29 : decode cX5_channelOf 29 = .ok (.invokestatic 34, 3) := by decide +kernel
theorem dX5_channelOf_32 : decode cX5_channelOf 32 = .ok (.iload_n 2, 1) := by decide +kernel
theorem dX5_channelOf_33 : decode cX5_channelOf 33 = .ok (.iadd, 1) := by decide +kernel
theorem dX5_channelOf_34 : decode cX5_channelOf 34 = .ok (.iaload, 1) := by decide +kernel
theorem dX5_channelOf_35 : decode cX5_channelOf 35 = .ok (.goto 5, 3) := by decide +kernel
theorem dX5_channelOf_38 : decode cX5_channelOf 38 = .ok (.ldc 29, 2) := by decide +kernel
theorem dX5_channelOf_40 : decode cX5_channelOf 40 = .ok (.ireturn, 1) := by decide +kernel
theorem dX5_between_0 : decode cX5_between 0 = .ok (.aload_n 0, 1) := by decide +kernel
theorem dX5_between_1 : decode cX5_between 1 = .ok (.iload_n 1, 1) := by decide +kernel
theorem dX5_between_2 : decode cX5_between 2 = .ok (.invokevirtual 38, 3) := by decide +kernel
theorem dX5_between_5 : decode cX5_between 5 = .ok (.ifCond .eq 25, 3) := by decide +kernel
theorem dX5_between_8 : decode cX5_between 8 = .ok (.aload_n 0, 1) := by decide +kernel
theorem dX5_between_9 : decode cX5_between 9 = .ok (.iload_n 2, 1) := by decide +kernel
theorem dX5_between_10 : decode cX5_between 10 = .ok (.invokevirtual 38, 3) := by decide +kernel
theorem dX5_between_13 : decode cX5_between 13 = .ok (.ifCond .eq 17, 3) := by decide +kernel
theorem dX5_between_16 : decode cX5_between 16 = .ok (.iload_n 1, 1) := by decide +kernel
theorem dX5_between_17 : decode cX5_between 17 = .ok (.iload_n 2, 1) := by decide +kernel
theorem dX5_between_18 : decode cX5_between 18 = .ok (.if_icmp .eq 12, 3) := by decide +kernel
theorem dX5_between_21 : decode cX5_between 21 = .ok (.aload_n 0, 1) := by decide +kernel
theorem dX5_between_22 : decode cX5_between 22 = .ok (.iload_n 1, 1) := by decide +kernel
theorem dX5_between_23 : decode cX5_between 23 = .ok (.iload_n 2, 1) := by decide +kernel
theorem dX5_between_24 : decode cX5_between 24 = .ok (.invokevirtual 45, 3) := by decide +kernel
theorem dX5_between_27 : decode cX5_between 27 = .ok (.goto 5, 3) := by decide +kernel
theorem dX5_between_30 : decode cX5_between 30 = .ok (.ldc 42, 2) := by decide +kernel
theorem dX5_between_32 : decode cX5_between 32 = .ok (.ireturn, 1) := by decide +kernel
theorem dX5_record_0 : decode cX5_record 0 = .ok (.iload_n 2, 1) := by decide +kernel
theorem dX5_record_1 : decode cX5_record 1 = .ok (.i2l, 1) := by decide +kernel
theorem dX5_record_2 : decode cX5_record 2 = .ok (.lconst 0, 1) := by decide +kernel
theorem dX5_record_3 : decode cX5_record 3 = .ok (.ldc2_w 155, 3) := by decide +kernel
theorem dX5_record_6 : decode cX5_record 6 = .ok (.invokestatic 23, 3) := by decide +kernel
theorem dX5_record_9 : decode cX5_record 9 = .ok (.ifCond .eq 7, 3) := by decide +kernel
theorem dX5_record_12 : decode cX5_record 12 = .ok (.iload_n 1, 1) := by decide +kernel
theorem dX5_record_13 : decode cX5_record 13 = .ok (.ifCond .ge 6, 3) := by decide +kernel
theorem dX5_record_16 : decode cX5_record 16 = .ok (.ldc 29, 2) := by decide +kernel
theorem dX5_record_18 : decode cX5_record 18 = .ok (.ireturn, 1) := by decide +kernel
theorem dX5_record_19 : decode cX5_record 19 = .ok (.iload_n 1, 1) := by decide +kernel
theorem dX5_record_20 : decode cX5_record 20 = .ok (.aload_n 0, 1) := by decide +kernel
theorem dX5_record_21 : decode cX5_record 21 = .ok (.getfield 30, 3) := by decide +kernel
theorem dX5_record_24 : decode cX5_record 24 = .ok (.if_icmp .ge 16, 3) := by decide +kernel
theorem dX5_record_27 : decode cX5_record 27 = .ok (.aload_n 0, 1) := by decide +kernel
theorem dX5_record_28 : decode cX5_record 28 = .ok (.getfield 17, 3) := by decide +kernel
theorem dX5_record_31 : decode cX5_record 31 = .ok (.iconst 4, 1) := by decide +kernel
theorem dX5_record_32 : decode cX5_record 32 = .ok (.iload_n 1, 1) := by decide +kernel
theorem dX5_record_33 : decode cX5_record 33 = .ok (.imul, 1) := by decide +kernel
theorem dX5_record_34 : decode cX5_record 34 = .ok (.iload_n 2, 1) := by decide +kernel
theorem dX5_record_35 : decode cX5_record 35 = .ok (.iadd, 1) := by decide +kernel
theorem dX5_record_36 : decode cX5_record 36 = .ok (.iaload, 1) := by decide +kernel
theorem dX5_record_37 : decode cX5_record 37 = .ok (.goto 4, 3) := by decide +kernel
theorem dX5_record_40 : decode cX5_record 40 = .ok (.iconst (-1), 1) := by decide +kernel
theorem dX5_record_41 : decode cX5_record 41 = .ok (.ireturn, 1) := by decide +kernel
theorem dX5_ringOf_0 : decode cX5_ringOf 0 = .ok (.iconst 0, 1) := by decide +kernel
theorem dX5_ringOf_1 : decode cX5_ringOf 1 = .ok (.istore_n 2, 1) := by decide +kernel
theorem dX5_ringOf_2 : decode cX5_ringOf 2 = .ok (.iload_n 2, 1) := by decide +kernel
theorem dX5_ringOf_3 : decode cX5_ringOf 3 = .ok (.bipush 6, 2) := by decide +kernel
theorem dX5_ringOf_5 : decode cX5_ringOf 5 = .ok (.if_icmp .ge 26, 3) := by decide +kernel
theorem dX5_ringOf_8 : decode cX5_ringOf 8 = .ok (.aload_n 0, 1) := by decide +kernel
theorem dX5_ringOf_9 : decode cX5_ringOf 9 = .ok (.getfield 20, 3) := by decide +kernel
theorem dX5_ringOf_12 : decode cX5_ringOf 12 = .ok (.iload_n 2, 1) := by decide +kernel
theorem dX5_ringOf_13 : decode cX5_ringOf 13 = .ok (.iload_n 2, 1) := by decide +kernel
theorem dX5_ringOf_14 : decode cX5_ringOf 14 = .ok (.iload_n 1, 1) := by decide +kernel
theorem dX5_ringOf_15 : decode cX5_ringOf 15 = .ok (.if_icmp .ne 7, 3) := by decide +kernel
theorem dX5_ringOf_18 : decode cX5_ringOf 18 = .ok (.iconst 0, 1) := by decide +kernel
theorem dX5_ringOf_19 : decode cX5_ringOf 19 = .ok (.goto 5, 3) := by decide +kernel
theorem dX5_ringOf_22 : decode cX5_ringOf 22 = .ok (.ldc 91, 2) := by decide +kernel
theorem dX5_ringOf_24 : decode cX5_ringOf 24 = .ok (.iastore, 1) := by decide +kernel
theorem dX5_ringOf_25 : decode cX5_ringOf 25 = .ok (.iinc 2 1, 3) := by decide +kernel
theorem dX5_ringOf_28 : decode cX5_ringOf 28 = .ok (.goto (-26), 3) := by decide +kernel
theorem dX5_ringOf_31 : decode cX5_ringOf 31 = .ok (.iconst 0, 1) := by decide +kernel
theorem dX5_ringOf_32 : decode cX5_ringOf 32 = .ok (.istore_n 2, 1) := by decide +kernel
theorem dX5_ringOf_33 : decode cX5_ringOf 33 = .ok (.iload_n 2, 1) := by decide +kernel
theorem dX5_ringOf_34 : decode cX5_ringOf 34 = .ok (.bipush 6, 2) := by decide +kernel
theorem dX5_ringOf_36 : decode cX5_ringOf 36 = .ok (.if_icmp .ge 104, 3) := by decide +kernel
theorem dX5_ringOf_39 : decode cX5_ringOf 39 = .ok (.iconst 0, 1) := by decide +kernel
theorem dX5_ringOf_40 : decode cX5_ringOf 40 = .ok (.istore_n 3, 1) := by decide +kernel
theorem dX5_ringOf_41 : decode cX5_ringOf 41 = .ok (.iload_n 3, 1) := by decide +kernel
theorem dX5_ringOf_42 : decode cX5_ringOf 42 = .ok (.aload_n 0, 1) := by decide +kernel
theorem dX5_ringOf_43 : decode cX5_ringOf 43 = .ok (.getfield 7, 3) := by decide +kernel
theorem dX5_ringOf_46 : decode cX5_ringOf 46 = .ok (.iconst 1, 1) := by decide +kernel
theorem dX5_ringOf_47 : decode cX5_ringOf 47 = .ok (.iaload, 1) := by decide +kernel
theorem dX5_ringOf_48 : decode cX5_ringOf 48 = .ok (.if_icmp .ge 86, 3) := by decide +kernel
theorem dX5_ringOf_51 : decode cX5_ringOf 51 = .ok (.aload_n 0, 1) := by decide +kernel
theorem dX5_ringOf_52 : decode cX5_ringOf 52 = .ok (.getfield 20, 3) := by decide +kernel
theorem dX5_ringOf_55 : decode cX5_ringOf 55 = .ok (.aload_n 0, 1) := by decide +kernel
theorem dX5_ringOf_56 : decode cX5_ringOf 56 = .ok (.getfield 7, 3) := by decide +kernel
theorem dX5_ringOf_59 : decode cX5_ringOf 59 = .ok (.iconst 0, 1) := by decide +kernel
theorem dX5_ringOf_60 : decode cX5_ringOf 60 = .ok (.iload_n 3, 1) := by decide +kernel
theorem dX5_ringOf_61 : decode cX5_ringOf 61 = .ok (.invokestatic 34, 3) := by decide +kernel
theorem dX5_ringOf_64 : decode cX5_ringOf 64 = .ok (.iconst 0, 1) := by decide +kernel
theorem dX5_ringOf_65 : decode cX5_ringOf 65 = .ok (.iadd, 1) := by decide +kernel
theorem dX5_ringOf_66 : decode cX5_ringOf 66 = .ok (.iaload, 1) := by decide +kernel
theorem dX5_ringOf_67 : decode cX5_ringOf 67 = .ok (.iaload, 1) := by decide +kernel
theorem dX5_ringOf_68 : decode cX5_ringOf 68 = .ok (.aload_n 0, 1) := by decide +kernel
theorem dX5_ringOf_69 : decode cX5_ringOf 69 = .ok (.getfield 7, 3) := by decide +kernel
theorem dX5_ringOf_72 : decode cX5_ringOf 72 = .ok (.iconst 0, 1) := by decide +kernel
theorem dX5_ringOf_73 : decode cX5_ringOf 73 = .ok (.iload_n 3, 1) := by decide +kernel
theorem dX5_ringOf_74 : decode cX5_ringOf 74 = .ok (.invokestatic 34, 3) := by decide +kernel
theorem dX5_ringOf_77 : decode cX5_ringOf 77 = .ok (.iconst 2, 1) := by decide +kernel
theorem dX5_ringOf_78 : decode cX5_ringOf 78 = .ok (.iadd, 1) := by decide +kernel
theorem dX5_ringOf_79 : decode cX5_ringOf 79 = .ok (.iaload, 1) := by decide +kernel
theorem dX5_ringOf_80 : decode cX5_ringOf 80 = .ok (.iadd, 1) := by decide +kernel
theorem dX5_ringOf_81 : decode cX5_ringOf 81 = .ok (.istore 4, 2) := by decide +kernel
theorem dX5_ringOf_83 : decode cX5_ringOf 83 = .ok (.aload_n 0, 1) := by decide +kernel
theorem dX5_ringOf_84 : decode cX5_ringOf 84 = .ok (.getfield 7, 3) := by decide +kernel
theorem dX5_ringOf_87 : decode cX5_ringOf 87 = .ok (.iconst 0, 1) := by decide +kernel
theorem dX5_ringOf_88 : decode cX5_ringOf 88 = .ok (.iload_n 3, 1) := by decide +kernel
theorem dX5_ringOf_89 : decode cX5_ringOf 89 = .ok (.invokestatic 34, 3) := by decide +kernel
theorem dX5_ringOf_92 : decode cX5_ringOf 92 = .ok (.iconst 1, 1) := by decide +kernel
theorem dX5_ringOf_93 : decode cX5_ringOf 93 = .ok (.iadd, 1) := by decide +kernel
theorem dX5_ringOf_94 : decode cX5_ringOf 94 = .ok (.iaload, 1) := by decide +kernel
theorem dX5_ringOf_95 : decode cX5_ringOf 95 = .ok (.istore 5, 2) := by decide +kernel
theorem dX5_ringOf_97 : decode cX5_ringOf 97 = .ok (.aload_n 0, 1) := by decide +kernel
theorem dX5_ringOf_98 : decode cX5_ringOf 98 = .ok (.getfield 20, 3) := by decide +kernel
theorem dX5_ringOf_101 : decode cX5_ringOf 101 = .ok (.iload 5, 2) := by decide +kernel
theorem dX5_ringOf_103 : decode cX5_ringOf 103 = .ok (.iload 4, 2) := by decide +kernel
theorem dX5_ringOf_105 : decode cX5_ringOf 105 = .ok (.aload_n 0, 1) := by decide +kernel
theorem dX5_ringOf_106 : decode cX5_ringOf 106 = .ok (.getfield 20, 3) := by decide +kernel
theorem dX5_ringOf_109 : decode cX5_ringOf 109 = .ok (.iload 5, 2) := by decide +kernel
theorem dX5_ringOf_111 : decode cX5_ringOf 111 = .ok (.iaload, 1) := by decide +kernel
theorem dX5_ringOf_112 : decode cX5_ringOf 112 = .ok (.if_icmp .ge 8, 3) := by decide +kernel
theorem dX5_ringOf_115 : decode cX5_ringOf 115 = .ok (.iload 4, 2) := by decide +kernel
theorem dX5_ringOf_117 : decode cX5_ringOf 117 = .ok (.goto 10, 3) := by decide +kernel
theorem dX5_ringOf_120 : decode cX5_ringOf 120 = .ok (.aload_n 0, 1) := by decide +kernel
theorem dX5_ringOf_121 : decode cX5_ringOf 121 = .ok (.getfield 20, 3) := by decide +kernel
theorem dX5_ringOf_124 : decode cX5_ringOf 124 = .ok (.iload 5, 2) := by decide +kernel
theorem dX5_ringOf_126 : decode cX5_ringOf 126 = .ok (.iaload, 1) := by decide +kernel
theorem dX5_ringOf_127 : decode cX5_ringOf 127 = .ok (.iastore, 1) := by decide +kernel
theorem dX5_ringOf_128 : decode cX5_ringOf 128 = .ok (.iinc 3 1, 3) := by decide +kernel
theorem dX5_ringOf_131 : decode cX5_ringOf 131 = .ok (.goto (-90), 3) := by decide +kernel
theorem dX5_ringOf_134 : decode cX5_ringOf 134 = .ok (.iinc 2 1, 3) := by decide +kernel
theorem dX5_ringOf_137 : decode cX5_ringOf 137 = .ok (.goto (-104), 3) := by decide +kernel
theorem dX5_ringOf_140 : decode cX5_ringOf 140 = .ok (.iconst (-1), 1) := by decide +kernel
theorem dX5_ringOf_141 : decode cX5_ringOf 141 = .ok (.istore_n 2, 1) := by decide +kernel
theorem dX5_ringOf_142 : decode cX5_ringOf 142 = .ok (.iconst 0, 1) := by decide +kernel
theorem dX5_ringOf_143 : decode cX5_ringOf 143 = .ok (.istore_n 3, 1) := by decide +kernel
theorem dX5_ringOf_144 : decode cX5_ringOf 144 = .ok (.iload_n 3, 1) := by decide +kernel
theorem dX5_ringOf_145 : decode cX5_ringOf 145 = .ok (.aload_n 0, 1) := by decide +kernel
theorem dX5_ringOf_146 : decode cX5_ringOf 146 = .ok (.getfield 7, 3) := by decide +kernel
theorem dX5_ringOf_149 : decode cX5_ringOf 149 = .ok (.iconst 1, 1) := by decide +kernel
theorem dX5_ringOf_150 : decode cX5_ringOf 150 = .ok (.iaload, 1) := by decide +kernel
theorem dX5_ringOf_151 : decode cX5_ringOf 151 = .ok (.if_icmp .ge 86, 3) := by decide +kernel
theorem dX5_ringOf_154 : decode cX5_ringOf 154 = .ok (.aload_n 0, 1) := by decide +kernel
theorem dX5_ringOf_155 : decode cX5_ringOf 155 = .ok (.getfield 20, 3) := by decide +kernel
theorem dX5_ringOf_158 : decode cX5_ringOf 158 = .ok (.aload_n 0, 1) := by decide +kernel
theorem dX5_ringOf_159 : decode cX5_ringOf 159 = .ok (.getfield 7, 3) := by decide +kernel
theorem dX5_ringOf_162 : decode cX5_ringOf 162 = .ok (.iconst 0, 1) := by decide +kernel
theorem dX5_ringOf_163 : decode cX5_ringOf 163 = .ok (.iload_n 3, 1) := by decide +kernel
theorem dX5_ringOf_164 : decode cX5_ringOf 164 = .ok (.invokestatic 34, 3) := by decide +kernel
theorem dX5_ringOf_167 : decode cX5_ringOf 167 = .ok (.iconst 0, 1) := by decide +kernel
theorem dX5_ringOf_168 : decode cX5_ringOf 168 = .ok (.iadd, 1) := by decide +kernel
theorem dX5_ringOf_169 : decode cX5_ringOf 169 = .ok (.iaload, 1) := by decide +kernel
theorem dX5_ringOf_170 : decode cX5_ringOf 170 = .ok (.iaload, 1) := by decide +kernel
theorem dX5_ringOf_171 : decode cX5_ringOf 171 = .ok (.istore 4, 2) := by decide +kernel
theorem dX5_ringOf_173 : decode cX5_ringOf 173 = .ok (.aload_n 0, 1) := by decide +kernel
theorem dX5_ringOf_174 : decode cX5_ringOf 174 = .ok (.getfield 7, 3) := by decide +kernel
theorem dX5_ringOf_177 : decode cX5_ringOf 177 = .ok (.iconst 0, 1) := by decide +kernel
theorem dX5_ringOf_178 : decode cX5_ringOf 178 = .ok (.iload_n 3, 1) := by decide +kernel
theorem dX5_ringOf_179 : decode cX5_ringOf 179 = .ok (.invokestatic 34, 3) := by decide +kernel
theorem dX5_ringOf_182 : decode cX5_ringOf 182 = .ok (.iconst 1, 1) := by decide +kernel
theorem dX5_ringOf_183 : decode cX5_ringOf 183 = .ok (.iadd, 1) := by decide +kernel
theorem dX5_ringOf_184 : decode cX5_ringOf 184 = .ok (.iaload, 1) := by decide +kernel
theorem dX5_ringOf_185 : decode cX5_ringOf 185 = .ok (.iload_n 1, 1) := by decide +kernel
theorem dX5_ringOf_186 : decode cX5_ringOf 186 = .ok (.if_icmp .ne 45, 3) := by decide +kernel
theorem dX5_ringOf_189 : decode cX5_ringOf 189 = .ok (.iload 4, 2) := by decide +kernel
theorem dX5_ringOf_191 : decode cX5_ringOf 191 = .ok (.ldc 91, 2) := by decide +kernel
theorem dX5_ringOf_193 : decode cX5_ringOf 193 = .ok (.if_icmp .ge 38, 3) := by decide +kernel
theorem dX5_ringOf_196 : decode cX5_ringOf 196 = .ok (.iload 4, 2) := by decide +kernel
theorem dX5_ringOf_198 : decode cX5_ringOf 198 = .ok (.aload_n 0, 1) := by decide +kernel
theorem dX5_ringOf_199 : decode cX5_ringOf 199 = .ok (.getfield 7, 3) := by decide +kernel
theorem dX5_ringOf_202 : decode cX5_ringOf 202 = .ok (.iconst 0, 1) := by decide +kernel
theorem dX5_ringOf_203 : decode cX5_ringOf 203 = .ok (.iload_n 3, 1) := by decide +kernel
theorem dX5_ringOf_204 : decode cX5_ringOf 204 = .ok (.invokestatic 34, 3) := by decide +kernel
theorem dX5_ringOf_207 : decode cX5_ringOf 207 = .ok (.iconst 2, 1) := by decide +kernel
theorem dX5_ringOf_208 : decode cX5_ringOf 208 = .ok (.iadd, 1) := by decide +kernel
theorem dX5_ringOf_209 : decode cX5_ringOf 209 = .ok (.iaload, 1) := by decide +kernel
theorem dX5_ringOf_210 : decode cX5_ringOf 210 = .ok (.iadd, 1) := by decide +kernel
theorem dX5_ringOf_211 : decode cX5_ringOf 211 = .ok (.istore 5, 2) := by decide +kernel
theorem dX5_ringOf_213 : decode cX5_ringOf 213 = .ok (.iload_n 2, 1) := by decide +kernel
theorem dX5_ringOf_214 : decode cX5_ringOf 214 = .ok (.iconst (-1), 1) := by decide +kernel
theorem dX5_ringOf_215 : decode cX5_ringOf 215 = .ok (.if_icmp .eq 9, 3) := by decide +kernel
theorem dX5_ringOf_218 : decode cX5_ringOf 218 = .ok (.iload 5, 2) := by decide +kernel
theorem dX5_ringOf_220 : decode cX5_ringOf 220 = .ok (.iload_n 2, 1) := by decide +kernel
theorem dX5_ringOf_221 : decode cX5_ringOf 221 = .ok (.if_icmp .ge 8, 3) := by decide +kernel
theorem dX5_ringOf_224 : decode cX5_ringOf 224 = .ok (.iload 5, 2) := by decide +kernel
theorem dX5_ringOf_226 : decode cX5_ringOf 226 = .ok (.goto 4, 3) := by decide +kernel
theorem dX5_ringOf_229 : decode cX5_ringOf 229 = .ok (.iload_n 2, 1) := by decide +kernel
theorem dX5_ringOf_230 : decode cX5_ringOf 230 = .ok (.istore_n 2, 1) := by decide +kernel
theorem dX5_ringOf_231 : decode cX5_ringOf 231 = .ok (.iinc 3 1, 3) := by decide +kernel
theorem dX5_ringOf_234 : decode cX5_ringOf 234 = .ok (.goto (-90), 3) := by decide +kernel
theorem dX5_ringOf_237 : decode cX5_ringOf 237 = .ok (.iload_n 2, 1) := by decide +kernel
theorem dX5_ringOf_238 : decode cX5_ringOf 238 = .ok (.ireturn, 1) := by decide +kernel
theorem dX5_ring_0 : decode cX5_ring 0 = .ok (.aload_n 0, 1) := by decide +kernel
theorem dX5_ring_1 : decode cX5_ring 1 = .ok (.iload_n 1, 1) := by decide +kernel
theorem dX5_ring_2 : decode cX5_ring 2 = .ok (.invokevirtual 38, 3) := by decide +kernel
theorem dX5_ring_5 : decode cX5_ring 5 = .ok (.ifCond .eq 11, 3) := by decide +kernel
theorem dX5_ring_8 : decode cX5_ring 8 = .ok (.aload_n 0, 1) := by decide +kernel
theorem dX5_ring_9 : decode cX5_ring 9 = .ok (.iload_n 1, 1) := by decide +kernel
theorem dX5_ring_10 : decode cX5_ring 10 = .ok (.invokevirtual 122, 3) := by decide +kernel
theorem dX5_ring_13 : decode cX5_ring 13 = .ok (.goto 5, 3) := by decide +kernel
theorem dX5_ring_16 : decode cX5_ring 16 = .ok (.ldc 42, 2) := by decide +kernel
theorem dX5_ring_18 : decode cX5_ring 18 = .ok (.ireturn, 1) := by decide +kernel
theorem dX5_waits_0 : decode cX5_waits 0 = .ok (.aload_n 0, 1) := by decide +kernel
theorem dX5_waits_1 : decode cX5_waits 1 = .ok (.iload_n 1, 1) := by decide +kernel
theorem dX5_waits_2 : decode cX5_waits 2 = .ok (.invokevirtual 38, 3) := by decide +kernel
theorem dX5_waits_5 : decode cX5_waits 5 = .ok (.ifCond .ne 6, 3) := by decide +kernel
theorem dX5_waits_8 : decode cX5_waits 8 = .ok (.ldc 42, 2) := by decide +kernel
theorem dX5_waits_10 : decode cX5_waits 10 = .ok (.ireturn, 1) := by decide +kernel
theorem dX5_waits_11 : decode cX5_waits 11 = .ok (.iconst 0, 1) := by decide +kernel
theorem dX5_waits_12 : decode cX5_waits 12 = .ok (.istore_n 2, 1) := by decide +kernel
theorem dX5_waits_13 : decode cX5_waits 13 = .ok (.iload_n 1, 1) := by decide +kernel
theorem dX5_waits_14 : decode cX5_waits 14 = .ok (.istore_n 3, 1) := by decide +kernel
theorem dX5_waits_15 : decode cX5_waits 15 = .ok (.iconst 1, 1) := by decide +kernel
theorem dX5_waits_16 : decode cX5_waits 16 = .ok (.istore 4, 2) := by decide +kernel
theorem dX5_waits_18 : decode cX5_waits 18 = .ok (.iload 4, 2) := by decide +kernel
theorem dX5_waits_20 : decode cX5_waits 20 = .ok (.ifCond .eq 72, 3) := by decide +kernel
theorem dX5_waits_23 : decode cX5_waits 23 = .ok (.aload_n 0, 1) := by decide +kernel
theorem dX5_waits_24 : decode cX5_waits 24 = .ok (.iload_n 3, 1) := by decide +kernel
theorem dX5_waits_25 : decode cX5_waits 25 = .ok (.invokevirtual 146, 3) := by decide +kernel
theorem dX5_waits_28 : decode cX5_waits 28 = .ok (.istore 5, 2) := by decide +kernel
theorem dX5_waits_30 : decode cX5_waits 30 = .ok (.iload 5, 2) := by decide +kernel
theorem dX5_waits_32 : decode cX5_waits 32 = .ok (.iconst (-1), 1) := by decide +kernel
theorem dX5_waits_33 : decode cX5_waits 33 = .ok (.if_icmp .ne 7, 3) := by decide +kernel
theorem dX5_waits_36 : decode cX5_waits 36 = .ok (.iconst (-1), 1) := by decide +kernel
theorem dX5_waits_37 : decode cX5_waits 37 = .ok (.goto 16, 3) := by decide +kernel
theorem dX5_waits_40 : decode cX5_waits 40 = .ok (.aload_n 0, 1) := by decide +kernel
theorem dX5_waits_41 : decode cX5_waits 41 = .ok (.getfield 7, 3) := by decide +kernel
theorem dX5_waits_44 : decode cX5_waits 44 = .ok (.iconst 0, 1) := by decide +kernel
theorem dX5_waits_45 : decode cX5_waits 45 = .ok (.iload 5, 2) := by decide +kernel
theorem dX5_waits_47 : decode cX5_waits 47 = .ok (.invokestatic 34, 3) := by decide +kernel
theorem dX5_waits_50 : decode cX5_waits 50 = .ok (.iconst 0, 1) := by decide +kernel
theorem dX5_waits_51 : decode cX5_waits 51 = .ok (.iadd, 1) := by decide +kernel
theorem dX5_waits_52 : decode cX5_waits 52 = .ok (.iaload, 1) := by decide +kernel
theorem dX5_waits_53 : decode cX5_waits 53 = .ok (.istore_n 3, 1) := by decide +kernel
theorem dX5_waits_54 : decode cX5_waits 54 = .ok (.iload_n 3, 1) := by decide +kernel
theorem dX5_waits_55 : decode cX5_waits 55 = .ok (.iconst (-1), 1) := by decide +kernel
theorem dX5_waits_56 : decode cX5_waits 56 = .ok (.if_icmp .eq 15, 3) := by decide +kernel
theorem dX5_waits_59 : decode cX5_waits 59 = .ok (.iload_n 2, 1) := by decide +kernel
theorem dX5_waits_60 : decode cX5_waits 60 = .ok (.iload_n 3, 1) := by decide +kernel
theorem dX5_waits_61 : decode cX5_waits 61 = .ok (.invokestatic 157, 3) := by decide +kernel
theorem dX5_waits_64 : decode cX5_waits 64 = .ok (.ifCond .ne 7, 3) := by decide +kernel
theorem dX5_waits_67 : decode cX5_waits 67 = .ok (.iconst 1, 1) := by decide +kernel
theorem dX5_waits_68 : decode cX5_waits 68 = .ok (.goto 4, 3) := by decide +kernel
theorem dX5_waits_71 : decode cX5_waits 71 = .ok (.iconst 0, 1) := by decide +kernel
theorem dX5_waits_72 : decode cX5_waits 72 = .ok (.istore 4, 2) := by decide +kernel
theorem dX5_waits_74 : decode cX5_waits 74 = .ok (.iload_n 2, 1) := by decide +kernel
theorem dX5_waits_75 : decode cX5_waits 75 = .ok (.iload 4, 2) := by decide +kernel
theorem dX5_waits_77 : decode cX5_waits 77 = .ok (.ifCond .eq 9, 3) := by decide +kernel
theorem dX5_waits_80 : decode cX5_waits 80 = .ok (.iconst 1, 1) := by decide +kernel
theorem dX5_waits_81 : decode cX5_waits 81 = .ok (.iload_n 3, 1) := by decide +kernel
theorem dX5_waits_82 : decode cX5_waits 82 = .ok (.ishl, 1) := by decide +kernel
theorem dX5_waits_83 : decode cX5_waits 83 = .ok (.goto 4, 3) := by decide +kernel
theorem dX5_waits_86 : decode cX5_waits 86 = .ok (.iconst 0, 1) := by decide +kernel
theorem dX5_waits_87 : decode cX5_waits 87 = .ok (.ior, 1) := by decide +kernel
theorem dX5_waits_88 : decode cX5_waits 88 = .ok (.istore_n 2, 1) := by decide +kernel
theorem dX5_waits_89 : decode cX5_waits 89 = .ok (.goto (-71), 3) := by decide +kernel
theorem dX5_waits_92 : decode cX5_waits 92 = .ok (.iload_n 2, 1) := by decide +kernel
theorem dX5_waits_93 : decode cX5_waits 93 = .ok (.ireturn, 1) := by decide +kernel
theorem dX5_inOrder_0 : decode cX5_inOrder 0 = .ok (.aload_n 0, 1) := by decide +kernel
theorem dX5_inOrder_1 : decode cX5_inOrder 1 = .ok (.iload_n 1, 1) := by decide +kernel
theorem dX5_inOrder_2 : decode cX5_inOrder 2 = .ok (.invokevirtual 38, 3) := by decide +kernel
theorem dX5_inOrder_5 : decode cX5_inOrder 5 = .ok (.ifCond .ne 6, 3) := by decide +kernel
theorem dX5_inOrder_8 : decode cX5_inOrder 8 = .ok (.ldc 42, 2) := by decide +kernel
theorem dX5_inOrder_10 : decode cX5_inOrder 10 = .ok (.ireturn, 1) := by decide +kernel
theorem dX5_inOrder_11 : decode cX5_inOrder 11 = .ok (.iload_n 2, 1) := by decide +kernel
theorem dX5_inOrder_12 : decode cX5_inOrder 12 = .ok (.i2l, 1) := by decide +kernel
theorem dX5_inOrder_13 : decode cX5_inOrder 13 = .ok (.lconst 0, 1) := by decide +kernel
theorem dX5_inOrder_14 : decode cX5_inOrder 14 = .ok (.lconst 1, 1) := by decide +kernel
theorem dX5_inOrder_15 : decode cX5_inOrder 15 = .ok (.invokestatic 23, 3) := by decide +kernel
theorem dX5_inOrder_18 : decode cX5_inOrder 18 = .ok (.ifCond .ne 6, 3) := by decide +kernel
theorem dX5_inOrder_21 : decode cX5_inOrder 21 = .ok (.ldc 29, 2) := by decide +kernel
theorem dX5_inOrder_23 : decode cX5_inOrder 23 = .ok (.ireturn, 1) := by decide +kernel
theorem dX5_inOrder_24 : decode cX5_inOrder 24 = .ok (.aload_n 0, 1) := by decide +kernel
theorem dX5_inOrder_25 : decode cX5_inOrder 25 = .ok (.iconst 0, 1) := by decide +kernel
theorem dX5_inOrder_26 : decode cX5_inOrder 26 = .ok (.sipush 262, 3) := by decide +kernel
theorem dX5_inOrder_29 : decode cX5_inOrder 29 = .ok (.invokevirtual 160, 3) := by decide +kernel
theorem dX5_inOrder_32 : decode cX5_inOrder 32 = .ok (.iconst 0, 1) := by decide +kernel
theorem dX5_inOrder_33 : decode cX5_inOrder 33 = .ok (.istore_n 3, 1) := by decide +kernel
theorem dX5_inOrder_34 : decode cX5_inOrder 34 = .ok (.iload_n 3, 1) := by decide +kernel
theorem dX5_inOrder_35 : decode cX5_inOrder 35 = .ok (.sipush 300, 3) := by decide +kernel
theorem dX5_inOrder_38 : decode cX5_inOrder 38 = .ok (.if_icmp .ge 102, 3) := by decide +kernel
theorem dX5_inOrder_41 : decode cX5_inOrder 41 = .ok (.aload_n 0, 1) := by decide +kernel
theorem dX5_inOrder_42 : decode cX5_inOrder 42 = .ok (.getfield 7, 3) := by decide +kernel
theorem dX5_inOrder_45 : decode cX5_inOrder 45 = .ok (.sipush 271, 3) := by decide +kernel
theorem dX5_inOrder_48 : decode cX5_inOrder 48 = .ok (.iaload, 1) := by decide +kernel
theorem dX5_inOrder_49 : decode cX5_inOrder 49 = .ok (.ifCond .le 91, 3) := by decide +kernel
theorem dX5_inOrder_52 : decode cX5_inOrder 52 = .ok (.iconst (-1), 1) := by decide +kernel
theorem dX5_inOrder_53 : decode cX5_inOrder 53 = .ok (.istore 4, 2) := by decide +kernel
theorem dX5_inOrder_55 : decode cX5_inOrder 55 = .ok (.ldc 91, 2) := by decide +kernel
theorem dX5_inOrder_57 : decode cX5_inOrder 57 = .ok (.istore 5, 2) := by decide +kernel
theorem dX5_inOrder_59 : decode cX5_inOrder 59 = .ok (.iconst 0, 1) := by decide +kernel
theorem dX5_inOrder_60 : decode cX5_inOrder 60 = .ok (.istore 6, 2) := by decide +kernel
theorem dX5_inOrder_62 : decode cX5_inOrder 62 = .ok (.iload 6, 2) := by decide +kernel
theorem dX5_inOrder_64 : decode cX5_inOrder 64 = .ok (.aload_n 0, 1) := by decide +kernel
theorem dX5_inOrder_65 : decode cX5_inOrder 65 = .ok (.getfield 7, 3) := by decide +kernel
theorem dX5_inOrder_68 : decode cX5_inOrder 68 = .ok (.iconst 0, 1) := by decide +kernel
theorem dX5_inOrder_69 : decode cX5_inOrder 69 = .ok (.iaload, 1) := by decide +kernel
theorem dX5_inOrder_70 : decode cX5_inOrder 70 = .ok (.if_icmp .ge 55, 3) := by decide +kernel
theorem dX5_inOrder_73 : decode cX5_inOrder 73 = .ok (.aload_n 0, 1) := by decide +kernel
theorem dX5_inOrder_74 : decode cX5_inOrder 74 = .ok (.sipush 262, 3) := by decide +kernel
theorem dX5_inOrder_77 : decode cX5_inOrder 77 = .ok (.iload 6, 2) := by decide +kernel
theorem dX5_inOrder_79 : decode cX5_inOrder 79 = .ok (.invokevirtual 88, 3) := by decide +kernel
theorem dX5_inOrder_82 : decode cX5_inOrder 82 = .ok (.istore 7, 2) := by decide +kernel
theorem dX5_inOrder_84 : decode cX5_inOrder 84 = .ok (.iload 7, 2) := by decide +kernel
theorem dX5_inOrder_86 : decode cX5_inOrder 86 = .ok (.iconst (-1), 1) := by decide +kernel
theorem dX5_inOrder_87 : decode cX5_inOrder 87 = .ok (.if_icmp .eq 32, 3) := by decide +kernel
theorem dX5_inOrder_90 : decode cX5_inOrder 90 = .ok (.aload_n 0, 1) := by decide +kernel
theorem dX5_inOrder_91 : decode cX5_inOrder 91 = .ok (.getfield 7, 3) := by decide +kernel
theorem dX5_inOrder_94 : decode cX5_inOrder 94 = .ok (.iload 7, 2) := by decide +kernel
theorem dX5_inOrder_96 : decode cX5_inOrder 96 = .ok (.iconst 1, 1) := by decide +kernel
theorem dX5_inOrder_97 : decode cX5_inOrder 97 = .ok (.iadd, 1) := by decide +kernel
theorem dX5_inOrder_98 : decode cX5_inOrder 98 = .ok (.iaload, 1) := by decide +kernel
theorem dX5_inOrder_99 : decode cX5_inOrder 99 = .ok (.iload 5, 2) := by decide +kernel
theorem dX5_inOrder_101 : decode cX5_inOrder 101 = .ok (.if_icmp .ge 18, 3) := by decide +kernel
theorem dX5_inOrder_104 : decode cX5_inOrder 104 = .ok (.iload 7, 2) := by decide +kernel
theorem dX5_inOrder_106 : decode cX5_inOrder 106 = .ok (.istore 4, 2) := by decide +kernel
theorem dX5_inOrder_108 : decode cX5_inOrder 108 = .ok (.aload_n 0, 1) := by decide +kernel
theorem dX5_inOrder_109 : decode cX5_inOrder 109 = .ok (.getfield 7, 3) := by decide +kernel
theorem dX5_inOrder_112 : decode cX5_inOrder 112 = .ok (.iload 7, 2) := by decide +kernel
theorem dX5_inOrder_114 : decode cX5_inOrder 114 = .ok (.iconst 1, 1) := by decide +kernel
theorem dX5_inOrder_115 : decode cX5_inOrder 115 = .ok (.iadd, 1) := by decide +kernel
theorem dX5_inOrder_116 : decode cX5_inOrder 116 = .ok (.iaload, 1) := by decide +kernel
theorem dX5_inOrder_117 : decode cX5_inOrder 117 = .ok (.istore 5, 2) := by decide +kernel
theorem dX5_inOrder_119 : decode cX5_inOrder 119 = .ok (.iinc 6 1, 3) := by decide +kernel
theorem dX5_inOrder_122 : decode cX5_inOrder 122 = .ok (.goto (-60), 3) := by decide +kernel
theorem dX5_inOrder_125 : decode cX5_inOrder 125 = .ok (.aload_n 0, 1) := by decide +kernel
theorem dX5_inOrder_126 : decode cX5_inOrder 126 = .ok (.sipush 262, 3) := by decide +kernel
theorem dX5_inOrder_129 : decode cX5_inOrder 129 = .ok (.iload 4, 2) := by decide +kernel
theorem dX5_inOrder_131 : decode cX5_inOrder 131 = .ok (.invokevirtual 111, 3) := by decide +kernel
theorem dX5_inOrder_134 : decode cX5_inOrder 134 = .ok (.iinc 3 1, 3) := by decide +kernel
theorem dX5_inOrder_137 : decode cX5_inOrder 137 = .ok (.goto (-103), 3) := by decide +kernel
theorem dX5_inOrder_140 : decode cX5_inOrder 140 = .ok (.aload_n 0, 1) := by decide +kernel
theorem dX5_inOrder_141 : decode cX5_inOrder 141 = .ok (.getfield 7, 3) := by decide +kernel
theorem dX5_inOrder_144 : decode cX5_inOrder 144 = .ok (.sipush 262, 3) := by decide +kernel
theorem dX5_inOrder_147 : decode cX5_inOrder 147 = .ok (.iload_n 2, 1) := by decide +kernel
theorem dX5_inOrder_148 : decode cX5_inOrder 148 = .ok (.ifCond .ne 8, 3) := by decide +kernel
theorem dX5_inOrder_151 : decode cX5_inOrder 151 = .ok (.bipush 10, 2) := by decide +kernel
theorem dX5_inOrder_153 : decode cX5_inOrder 153 = .ok (.goto 5, 3) := by decide +kernel
theorem dX5_inOrder_156 : decode cX5_inOrder 156 = .ok (.bipush 16, 2) := by decide +kernel
theorem dX5_inOrder_158 : decode cX5_inOrder 158 = .ok (.iadd, 1) := by decide +kernel
theorem dX5_inOrder_159 : decode cX5_inOrder 159 = .ok (.iload_n 1, 1) := by decide +kernel
theorem dX5_inOrder_160 : decode cX5_inOrder 160 = .ok (.iadd, 1) := by decide +kernel
theorem dX5_inOrder_161 : decode cX5_inOrder 161 = .ok (.iaload, 1) := by decide +kernel
theorem dX5_inOrder_162 : decode cX5_inOrder 162 = .ok (.ireturn, 1) := by decide +kernel
theorem dX5_keep_0 : decode cX5_keep 0 = .ok (.iload_n 1, 1) := by decide +kernel
theorem dX5_keep_1 : decode cX5_keep 1 = .ok (.i2l, 1) := by decide +kernel
theorem dX5_keep_2 : decode cX5_keep 2 = .ok (.lconst 0, 1) := by decide +kernel
theorem dX5_keep_3 : decode cX5_keep 3 = .ok (.lconst 1, 1) := by decide +kernel
theorem dX5_keep_4 : decode cX5_keep 4 = .ok (.invokestatic 23, 3) := by decide +kernel
theorem dX5_keep_7 : decode cX5_keep 7 = .ok (.ifCond .ne 6, 3) := by decide +kernel
theorem dX5_keep_10 : decode cX5_keep 10 = .ok (.ldc 42, 2) := by decide +kernel
theorem dX5_keep_12 : decode cX5_keep 12 = .ok (.ireturn, 1) := by decide +kernel
theorem dX5_keep_13 : decode cX5_keep 13 = .ok (.aload_n 0, 1) := by decide +kernel
theorem dX5_keep_14 : decode cX5_keep 14 = .ok (.iconst 0, 1) := by decide +kernel
theorem dX5_keep_15 : decode cX5_keep 15 = .ok (.sipush 524, 3) := by decide +kernel
theorem dX5_keep_18 : decode cX5_keep 18 = .ok (.sipush 262, 3) := by decide +kernel
theorem dX5_keep_21 : decode cX5_keep 21 = .ok (.iload_n 1, 1) := by decide +kernel
theorem dX5_keep_22 : decode cX5_keep 22 = .ok (.imul, 1) := by decide +kernel
theorem dX5_keep_23 : decode cX5_keep 23 = .ok (.iadd, 1) := by decide +kernel
theorem dX5_keep_24 : decode cX5_keep 24 = .ok (.invokevirtual 160, 3) := by decide +kernel
theorem dX5_keep_27 : decode cX5_keep 27 = .ok (.aload_n 0, 1) := by decide +kernel
theorem dX5_keep_28 : decode cX5_keep 28 = .ok (.getfield 13, 3) := by decide +kernel
theorem dX5_keep_31 : decode cX5_keep 31 = .ok (.iload_n 1, 1) := by decide +kernel
theorem dX5_keep_32 : decode cX5_keep 32 = .ok (.iconst 1, 1) := by decide +kernel
theorem dX5_keep_33 : decode cX5_keep 33 = .ok (.bastore, 1) := by decide +kernel
theorem dX5_keep_34 : decode cX5_keep 34 = .ok (.iconst 1, 1) := by decide +kernel
theorem dX5_keep_35 : decode cX5_keep 35 = .ok (.ireturn, 1) := by decide +kernel
theorem dX5_goBack_0 : decode cX5_goBack 0 = .ok (.iload_n 1, 1) := by decide +kernel
theorem dX5_goBack_1 : decode cX5_goBack 1 = .ok (.i2l, 1) := by decide +kernel
theorem dX5_goBack_2 : decode cX5_goBack 2 = .ok (.lconst 0, 1) := by decide +kernel
theorem dX5_goBack_3 : decode cX5_goBack 3 = .ok (.lconst 1, 1) := by decide +kernel
theorem dX5_goBack_4 : decode cX5_goBack 4 = .ok (.invokestatic 23, 3) := by decide +kernel
theorem dX5_goBack_7 : decode cX5_goBack 7 = .ok (.ifCond .ne 6, 3) := by decide +kernel
theorem dX5_goBack_10 : decode cX5_goBack 10 = .ok (.ldc 42, 2) := by decide +kernel
theorem dX5_goBack_12 : decode cX5_goBack 12 = .ok (.ireturn, 1) := by decide +kernel
theorem dX5_goBack_13 : decode cX5_goBack 13 = .ok (.aload_n 0, 1) := by decide +kernel
theorem dX5_goBack_14 : decode cX5_goBack 14 = .ok (.getfield 13, 3) := by decide +kernel
theorem dX5_goBack_17 : decode cX5_goBack 17 = .ok (.iload_n 1, 1) := by decide +kernel
theorem dX5_goBack_18 : decode cX5_goBack 18 = .ok (.baload, 1) := by decide +kernel
theorem dX5_goBack_19 : decode cX5_goBack 19 = .ok (.ifCond .ne 6, 3) := by decide +kernel
theorem dX5_goBack_22 : decode cX5_goBack 22 = .ok (.ldc 48, 2) := by decide +kernel
theorem dX5_goBack_24 : decode cX5_goBack 24 = .ok (.ireturn, 1) := by decide +kernel
theorem dX5_goBack_25 : decode cX5_goBack 25 = .ok (.aload_n 0, 1) := by decide +kernel
theorem dX5_goBack_26 : decode cX5_goBack 26 = .ok (.sipush 524, 3) := by decide +kernel
theorem dX5_goBack_29 : decode cX5_goBack 29 = .ok (.sipush 262, 3) := by decide +kernel
theorem dX5_goBack_32 : decode cX5_goBack 32 = .ok (.iload_n 1, 1) := by decide +kernel
theorem dX5_goBack_33 : decode cX5_goBack 33 = .ok (.imul, 1) := by decide +kernel
theorem dX5_goBack_34 : decode cX5_goBack 34 = .ok (.iadd, 1) := by decide +kernel
theorem dX5_goBack_35 : decode cX5_goBack 35 = .ok (.iconst 0, 1) := by decide +kernel
theorem dX5_goBack_36 : decode cX5_goBack 36 = .ok (.invokevirtual 160, 3) := by decide +kernel
theorem dX5_goBack_39 : decode cX5_goBack 39 = .ok (.iconst 1, 1) := by decide +kernel
theorem dX5_goBack_40 : decode cX5_goBack 40 = .ok (.ireturn, 1) := by decide +kernel
end
section
theorem dL_law_0 : decode cL_law 0 = .ok (.new 7, 3) := by decide +kernel
theorem dL_law_3 : decode cL_law 3 = .ok (.dup, 1) := by decide +kernel
theorem dL_law_4 : decode cL_law 4 = .ok (.invokespecial 9, 3) := by decide +kernel
theorem dL_law_7 : decode cL_law 7 = .ok (.astore_n 1, 1) := by decide +kernel
theorem dL_law_8 : decode cL_law 8 = .ok (.new 10, 3) := by decide +kernel
theorem dL_law_11 : decode cL_law 11 = .ok (.dup, 1) := by decide +kernel
theorem dL_law_12 : decode cL_law 12 = .ok (.invokespecial 12, 3) := by decide +kernel
theorem dL_law_15 : decode cL_law 15 = .ok (.astore_n 2, 1) := by decide +kernel
theorem dL_law_16 : decode cL_law 16 = .ok (.iconst 0, 1) := by decide +kernel
theorem dL_law_17 : decode cL_law 17 = .ok (.istore_n 3, 1) := by decide +kernel
theorem dL_law_18 : decode cL_law 18 = .ok (.iload_n 3, 1) := by decide +kernel
theorem dL_law_19 : decode cL_law 19 = .ok (.aload_n 0, 1) := by decide +kernel
theorem dL_law_20 : decode cL_law 20 = .ok (.arraylength, 1) := by decide +kernel
theorem dL_law_21 : decode cL_law 21 = .ok (.iconst 5, 1) := by decide +kernel
theorem dL_law_22 : decode cL_law 22 = .ok (.isub, 1) := by decide +kernel
theorem dL_law_23 : decode cL_law 23 = .ok (.if_icmp .gt 607, 3) := by decide +kernel
theorem dL_law_26 : decode cL_law 26 = .ok (.aload_n 0, 1) := by decide +kernel
theorem dL_law_27 : decode cL_law 27 = .ok (.iload_n 3, 1) := by decide +kernel
theorem dL_law_28 : decode cL_law 28 = .ok (.iaload, 1) := by decide +kernel
theorem dL_law_29 : decode cL_law 29 = .ok (.bipush 31, 2) := by decide +kernel
theorem dL_law_31 : decode cL_law 31 = .ok (.iand, 1) := by decide +kernel
theorem dL_law_32 : decode cL_law 32 = .ok (.tableswitch 592 0 17 #[88, 111, 164, 207, 230, 263, 286, 299, 312, 335, 368, 401, 434, 467, 490, 513, 546, 569], 88) := by decide +kernel
theorem dL_law_120 : decode cL_law 120 = .ok (.aload_n 1, 1) := by decide +kernel
theorem dL_law_121 : decode cL_law 121 = .ok (.aload_n 0, 1) := by decide +kernel
theorem dL_law_122 : decode cL_law 122 = .ok (.iload_n 3, 1) := by decide +kernel
theorem dL_law_123 : decode cL_law 123 = .ok (.iconst 1, 1) := by decide +kernel
theorem dL_law_124 : decode cL_law 124 = .ok (.iadd, 1) := by decide +kernel
theorem dL_law_125 : decode cL_law 125 = .ok (.iaload, 1) := by decide +kernel
theorem dL_law_126 : decode cL_law 126 = .ok (.invokevirtual 13, 3) := by decide +kernel
theorem dL_law_129 : decode cL_law 129 = .ok (.aload_n 2, 1) := by decide +kernel
theorem dL_law_130 : decode cL_law 130 = .ok (.aload_n 0, 1) := by decide +kernel
theorem dL_law_131 : decode cL_law 131 = .ok (.iload_n 3, 1) := by decide +kernel
theorem dL_law_132 : decode cL_law 132 = .ok (.iconst 1, 1) := by decide +kernel
theorem dL_law_133 : decode cL_law 133 = .ok (.iadd, 1) := by decide +kernel
theorem dL_law_134 : decode cL_law 134 = .ok (.iaload, 1) := by decide +kernel
theorem dL_law_135 : decode cL_law 135 = .ok (.invokevirtual 17, 3) := by decide +kernel
theorem dL_law_138 : decode cL_law 138 = .ok (.if_icmp .eq 486, 3) := by decide +kernel
theorem dL_law_141 : decode cL_law 141 = .ok (.iconst 0, 1) := by decide +kernel
theorem dL_law_142 : decode cL_law 142 = .ok (.ireturn, 1) := by decide +kernel
theorem dL_law_143 : decode cL_law 143 = .ok (.aload_n 1, 1) := by decide +kernel
theorem dL_law_144 : decode cL_law 144 = .ok (.aload_n 0, 1) := by decide +kernel
theorem dL_law_145 : decode cL_law 145 = .ok (.iload_n 3, 1) := by decide +kernel
theorem dL_law_146 : decode cL_law 146 = .ok (.iconst 1, 1) := by decide +kernel
theorem dL_law_147 : decode cL_law 147 = .ok (.iadd, 1) := by decide +kernel
theorem dL_law_148 : decode cL_law 148 = .ok (.iaload, 1) := by decide +kernel
theorem dL_law_149 : decode cL_law 149 = .ok (.aload_n 0, 1) := by decide +kernel
theorem dL_law_150 : decode cL_law 150 = .ok (.iload_n 3, 1) := by decide +kernel
theorem dL_law_151 : decode cL_law 151 = .ok (.iconst 2, 1) := by decide +kernel
theorem dL_law_152 : decode cL_law 152 = .ok (.iadd, 1) := by decide +kernel
theorem dL_law_153 : decode cL_law 153 = .ok (.iaload, 1) := by decide +kernel
theorem dL_law_154 : decode cL_law 154 = .ok (.aload_n 0, 1) := by decide +kernel
theorem dL_law_155 : decode cL_law 155 = .ok (.iload_n 3, 1) := by decide +kernel
theorem dL_law_156 : decode cL_law 156 = .ok (.iconst 3, 1) := by decide +kernel
theorem dL_law_157 : decode cL_law 157 = .ok (.iadd, 1) := by decide +kernel
theorem dL_law_158 : decode cL_law 158 = .ok (.iaload, 1) := by decide +kernel
theorem dL_law_159 : decode cL_law 159 = .ok (.aload_n 0, 1) := by decide +kernel
theorem dL_law_160 : decode cL_law 160 = .ok (.iload_n 3, 1) := by decide +kernel
theorem dL_law_161 : decode cL_law 161 = .ok (.iconst 4, 1) := by decide +kernel
theorem dL_law_162 : decode cL_law 162 = .ok (.iadd, 1) := by decide +kernel
theorem dL_law_163 : decode cL_law 163 = .ok (.iaload, 1) := by decide +kernel
theorem dL_law_164 : decode cL_law 164 = .ok (.invokevirtual 18, 3) := by decide +kernel
theorem dL_law_167 : decode cL_law 167 = .ok (.aload_n 2, 1) := by decide +kernel
theorem dL_law_168 : decode cL_law 168 = .ok (.aload_n 0, 1) := by decide +kernel
theorem dL_law_169 : decode cL_law 169 = .ok (.iload_n 3, 1) := by decide +kernel
theorem dL_law_170 : decode cL_law 170 = .ok (.iconst 1, 1) := by decide +kernel
theorem dL_law_171 : decode cL_law 171 = .ok (.iadd, 1) := by decide +kernel
theorem dL_law_172 : decode cL_law 172 = .ok (.iaload, 1) := by decide +kernel
theorem dL_law_173 : decode cL_law 173 = .ok (.aload_n 0, 1) := by decide +kernel
theorem dL_law_174 : decode cL_law 174 = .ok (.iload_n 3, 1) := by decide +kernel
theorem dL_law_175 : decode cL_law 175 = .ok (.iconst 2, 1) := by decide +kernel
theorem dL_law_176 : decode cL_law 176 = .ok (.iadd, 1) := by decide +kernel
theorem dL_law_177 : decode cL_law 177 = .ok (.iaload, 1) := by decide +kernel
theorem dL_law_178 : decode cL_law 178 = .ok (.aload_n 0, 1) := by decide +kernel
theorem dL_law_179 : decode cL_law 179 = .ok (.iload_n 3, 1) := by decide +kernel
theorem dL_law_180 : decode cL_law 180 = .ok (.iconst 3, 1) := by decide +kernel
theorem dL_law_181 : decode cL_law 181 = .ok (.iadd, 1) := by decide +kernel
theorem dL_law_182 : decode cL_law 182 = .ok (.iaload, 1) := by decide +kernel
theorem dL_law_183 : decode cL_law 183 = .ok (.aload_n 0, 1) := by decide +kernel
theorem dL_law_184 : decode cL_law 184 = .ok (.iload_n 3, 1) := by decide +kernel
theorem dL_law_185 : decode cL_law 185 = .ok (.iconst 4, 1) := by decide +kernel
theorem dL_law_186 : decode cL_law 186 = .ok (.iadd, 1) := by decide +kernel
theorem dL_law_187 : decode cL_law 187 = .ok (.iaload, 1) := by decide +kernel
theorem dL_law_188 : decode cL_law 188 = .ok (.invokevirtual 22, 3) := by decide +kernel
theorem dL_law_191 : decode cL_law 191 = .ok (.if_icmp .eq 433, 3) := by decide +kernel
theorem dL_law_194 : decode cL_law 194 = .ok (.iconst 0, 1) := by decide +kernel
theorem dL_law_195 : decode cL_law 195 = .ok (.ireturn, 1) := by decide +kernel
theorem dL_law_196 : decode cL_law 196 = .ok (.aload_n 1, 1) := by decide +kernel
theorem dL_law_197 : decode cL_law 197 = .ok (.aload_n 0, 1) := by decide +kernel
theorem dL_law_198 : decode cL_law 198 = .ok (.iload_n 3, 1) := by decide +kernel
theorem dL_law_199 : decode cL_law 199 = .ok (.iconst 1, 1) := by decide +kernel
theorem dL_law_200 : decode cL_law 200 = .ok (.iadd, 1) := by decide +kernel
theorem dL_law_201 : decode cL_law 201 = .ok (.iaload, 1) := by decide +kernel
theorem dL_law_202 : decode cL_law 202 = .ok (.aload_n 0, 1) := by decide +kernel
theorem dL_law_203 : decode cL_law 203 = .ok (.iload_n 3, 1) := by decide +kernel
theorem dL_law_204 : decode cL_law 204 = .ok (.iconst 2, 1) := by decide +kernel
theorem dL_law_205 : decode cL_law 205 = .ok (.iadd, 1) := by decide +kernel
theorem dL_law_206 : decode cL_law 206 = .ok (.iaload, 1) := by decide +kernel
theorem dL_law_207 : decode cL_law 207 = .ok (.aload_n 0, 1) := by decide +kernel
theorem dL_law_208 : decode cL_law 208 = .ok (.iload_n 3, 1) := by decide +kernel
theorem dL_law_209 : decode cL_law 209 = .ok (.iconst 3, 1) := by decide +kernel
theorem dL_law_210 : decode cL_law 210 = .ok (.iadd, 1) := by decide +kernel
theorem dL_law_211 : decode cL_law 211 = .ok (.iaload, 1) := by decide +kernel
theorem dL_law_212 : decode cL_law 212 = .ok (.invokevirtual 23, 3) := by decide +kernel
theorem dL_law_215 : decode cL_law 215 = .ok (.aload_n 2, 1) := by decide +kernel
theorem dL_law_216 : decode cL_law 216 = .ok (.aload_n 0, 1) := by decide +kernel
theorem dL_law_217 : decode cL_law 217 = .ok (.iload_n 3, 1) := by decide +kernel
theorem dL_law_218 : decode cL_law 218 = .ok (.iconst 1, 1) := by decide +kernel
theorem dL_law_219 : decode cL_law 219 = .ok (.iadd, 1) := by decide +kernel
theorem dL_law_220 : decode cL_law 220 = .ok (.iaload, 1) := by decide +kernel
theorem dL_law_221 : decode cL_law 221 = .ok (.aload_n 0, 1) := by decide +kernel
theorem dL_law_222 : decode cL_law 222 = .ok (.iload_n 3, 1) := by decide +kernel
theorem dL_law_223 : decode cL_law 223 = .ok (.iconst 2, 1) := by decide +kernel
theorem dL_law_224 : decode cL_law 224 = .ok (.iadd, 1) := by decide +kernel
theorem dL_law_225 : decode cL_law 225 = .ok (.iaload, 1) := by decide +kernel
theorem dL_law_226 : decode cL_law 226 = .ok (.aload_n 0, 1) := by decide +kernel
theorem dL_law_227 : decode cL_law 227 = .ok (.iload_n 3, 1) := by decide +kernel
theorem dL_law_228 : decode cL_law 228 = .ok (.iconst 3, 1) := by decide +kernel
theorem dL_law_229 : decode cL_law 229 = .ok (.iadd, 1) := by decide +kernel
theorem dL_law_230 : decode cL_law 230 = .ok (.iaload, 1) := by decide +kernel
theorem dL_law_231 : decode cL_law 231 = .ok (.invokevirtual 27, 3) := by decide +kernel
theorem dL_law_234 : decode cL_law 234 = .ok (.if_icmp .eq 390, 3) := by decide +kernel
theorem dL_law_237 : decode cL_law 237 = .ok (.iconst 0, 1) := by decide +kernel
theorem dL_law_238 : decode cL_law 238 = .ok (.ireturn, 1) := by decide +kernel
theorem dL_law_239 : decode cL_law 239 = .ok (.aload_n 1, 1) := by decide +kernel
theorem dL_law_240 : decode cL_law 240 = .ok (.aload_n 0, 1) := by decide +kernel
theorem dL_law_241 : decode cL_law 241 = .ok (.iload_n 3, 1) := by decide +kernel
theorem dL_law_242 : decode cL_law 242 = .ok (.iconst 1, 1) := by decide +kernel
theorem dL_law_243 : decode cL_law 243 = .ok (.iadd, 1) := by decide +kernel
theorem dL_law_244 : decode cL_law 244 = .ok (.iaload, 1) := by decide +kernel
theorem dL_law_245 : decode cL_law 245 = .ok (.invokevirtual 28, 3) := by decide +kernel
theorem dL_law_248 : decode cL_law 248 = .ok (.aload_n 2, 1) := by decide +kernel
theorem dL_law_249 : decode cL_law 249 = .ok (.aload_n 0, 1) := by decide +kernel
theorem dL_law_250 : decode cL_law 250 = .ok (.iload_n 3, 1) := by decide +kernel
theorem dL_law_251 : decode cL_law 251 = .ok (.iconst 1, 1) := by decide +kernel
theorem dL_law_252 : decode cL_law 252 = .ok (.iadd, 1) := by decide +kernel
theorem dL_law_253 : decode cL_law 253 = .ok (.iaload, 1) := by decide +kernel
theorem dL_law_254 : decode cL_law 254 = .ok (.invokevirtual 31, 3) := by decide +kernel
theorem dL_law_257 : decode cL_law 257 = .ok (.if_icmp .eq 367, 3) := by decide +kernel
theorem dL_law_260 : decode cL_law 260 = .ok (.iconst 0, 1) := by decide +kernel
theorem dL_law_261 : decode cL_law 261 = .ok (.ireturn, 1) := by decide +kernel
theorem dL_law_262 : decode cL_law 262 = .ok (.aload_n 1, 1) := by decide +kernel
theorem dL_law_263 : decode cL_law 263 = .ok (.aload_n 0, 1) := by decide +kernel
theorem dL_law_264 : decode cL_law 264 = .ok (.iload_n 3, 1) := by decide +kernel
theorem dL_law_265 : decode cL_law 265 = .ok (.iconst 1, 1) := by decide +kernel
theorem dL_law_266 : decode cL_law 266 = .ok (.iadd, 1) := by decide +kernel
theorem dL_law_267 : decode cL_law 267 = .ok (.iaload, 1) := by decide +kernel
theorem dL_law_268 : decode cL_law 268 = .ok (.aload_n 0, 1) := by decide +kernel
theorem dL_law_269 : decode cL_law 269 = .ok (.iload_n 3, 1) := by decide +kernel
theorem dL_law_270 : decode cL_law 270 = .ok (.iconst 2, 1) := by decide +kernel
theorem dL_law_271 : decode cL_law 271 = .ok (.iadd, 1) := by decide +kernel
theorem dL_law_272 : decode cL_law 272 = .ok (.iaload, 1) := by decide +kernel
theorem dL_law_273 : decode cL_law 273 = .ok (.invokevirtual 32, 3) := by decide +kernel
theorem dL_law_276 : decode cL_law 276 = .ok (.aload_n 2, 1) := by decide +kernel
theorem dL_law_277 : decode cL_law 277 = .ok (.aload_n 0, 1) := by decide +kernel
theorem dL_law_278 : decode cL_law 278 = .ok (.iload_n 3, 1) := by decide +kernel
theorem dL_law_279 : decode cL_law 279 = .ok (.iconst 1, 1) := by decide +kernel
theorem dL_law_280 : decode cL_law 280 = .ok (.iadd, 1) := by decide +kernel
theorem dL_law_281 : decode cL_law 281 = .ok (.iaload, 1) := by decide +kernel
theorem dL_law_282 : decode cL_law 282 = .ok (.aload_n 0, 1) := by decide +kernel
theorem dL_law_283 : decode cL_law 283 = .ok (.iload_n 3, 1) := by decide +kernel
theorem dL_law_284 : decode cL_law 284 = .ok (.iconst 2, 1) := by decide +kernel
theorem dL_law_285 : decode cL_law 285 = .ok (.iadd, 1) := by decide +kernel
theorem dL_law_286 : decode cL_law 286 = .ok (.iaload, 1) := by decide +kernel
theorem dL_law_287 : decode cL_law 287 = .ok (.invokevirtual 36, 3) := by decide +kernel
theorem dL_law_290 : decode cL_law 290 = .ok (.if_icmp .eq 334, 3) := by decide +kernel
theorem dL_law_293 : decode cL_law 293 = .ok (.iconst 0, 1) := by decide +kernel
theorem dL_law_294 : decode cL_law 294 = .ok (.ireturn, 1) := by decide +kernel
theorem dL_law_295 : decode cL_law 295 = .ok (.aload_n 1, 1) := by decide +kernel
theorem dL_law_296 : decode cL_law 296 = .ok (.aload_n 0, 1) := by decide +kernel
theorem dL_law_297 : decode cL_law 297 = .ok (.iload_n 3, 1) := by decide +kernel
theorem dL_law_298 : decode cL_law 298 = .ok (.iconst 1, 1) := by decide +kernel
theorem dL_law_299 : decode cL_law 299 = .ok (.iadd, 1) := by decide +kernel
theorem dL_law_300 : decode cL_law 300 = .ok (.iaload, 1) := by decide +kernel
theorem dL_law_301 : decode cL_law 301 = .ok (.invokevirtual 37, 3) := by decide +kernel
theorem dL_law_304 : decode cL_law 304 = .ok (.aload_n 2, 1) := by decide +kernel
theorem dL_law_305 : decode cL_law 305 = .ok (.aload_n 0, 1) := by decide +kernel
theorem dL_law_306 : decode cL_law 306 = .ok (.iload_n 3, 1) := by decide +kernel
theorem dL_law_307 : decode cL_law 307 = .ok (.iconst 1, 1) := by decide +kernel
theorem dL_law_308 : decode cL_law 308 = .ok (.iadd, 1) := by decide +kernel
theorem dL_law_309 : decode cL_law 309 = .ok (.iaload, 1) := by decide +kernel
theorem dL_law_310 : decode cL_law 310 = .ok (.invokevirtual 40, 3) := by decide +kernel
theorem dL_law_313 : decode cL_law 313 = .ok (.if_icmp .eq 311, 3) := by decide +kernel
theorem dL_law_316 : decode cL_law 316 = .ok (.iconst 0, 1) := by decide +kernel
theorem dL_law_317 : decode cL_law 317 = .ok (.ireturn, 1) := by decide +kernel
theorem dL_law_318 : decode cL_law 318 = .ok (.aload_n 1, 1) := by decide +kernel
theorem dL_law_319 : decode cL_law 319 = .ok (.invokevirtual 41, 3) := by decide +kernel
theorem dL_law_322 : decode cL_law 322 = .ok (.aload_n 2, 1) := by decide +kernel
theorem dL_law_323 : decode cL_law 323 = .ok (.invokevirtual 45, 3) := by decide +kernel
theorem dL_law_326 : decode cL_law 326 = .ok (.if_icmp .eq 298, 3) := by decide +kernel
theorem dL_law_329 : decode cL_law 329 = .ok (.iconst 0, 1) := by decide +kernel
theorem dL_law_330 : decode cL_law 330 = .ok (.ireturn, 1) := by decide +kernel
theorem dL_law_331 : decode cL_law 331 = .ok (.aload_n 1, 1) := by decide +kernel
theorem dL_law_332 : decode cL_law 332 = .ok (.invokevirtual 46, 3) := by decide +kernel
theorem dL_law_335 : decode cL_law 335 = .ok (.aload_n 2, 1) := by decide +kernel
theorem dL_law_336 : decode cL_law 336 = .ok (.invokevirtual 49, 3) := by decide +kernel
theorem dL_law_339 : decode cL_law 339 = .ok (.if_icmp .eq 285, 3) := by decide +kernel
theorem dL_law_342 : decode cL_law 342 = .ok (.iconst 0, 1) := by decide +kernel
theorem dL_law_343 : decode cL_law 343 = .ok (.ireturn, 1) := by decide +kernel
theorem dL_law_344 : decode cL_law 344 = .ok (.aload_n 1, 1) := by decide +kernel
theorem dL_law_345 : decode cL_law 345 = .ok (.aload_n 0, 1) := by decide +kernel
theorem dL_law_346 : decode cL_law 346 = .ok (.iload_n 3, 1) := by decide +kernel
theorem dL_law_347 : decode cL_law 347 = .ok (.iconst 1, 1) := by decide +kernel
theorem dL_law_348 : decode cL_law 348 = .ok (.iadd, 1) := by decide +kernel
theorem dL_law_349 : decode cL_law 349 = .ok (.iaload, 1) := by decide +kernel
theorem dL_law_350 : decode cL_law 350 = .ok (.invokevirtual 50, 3) := by decide +kernel
theorem dL_law_353 : decode cL_law 353 = .ok (.aload_n 2, 1) := by decide +kernel
theorem dL_law_354 : decode cL_law 354 = .ok (.aload_n 0, 1) := by decide +kernel
theorem dL_law_355 : decode cL_law 355 = .ok (.iload_n 3, 1) := by decide +kernel
theorem dL_law_356 : decode cL_law 356 = .ok (.iconst 1, 1) := by decide +kernel
theorem dL_law_357 : decode cL_law 357 = .ok (.iadd, 1) := by decide +kernel
theorem dL_law_358 : decode cL_law 358 = .ok (.iaload, 1) := by decide +kernel
theorem dL_law_359 : decode cL_law 359 = .ok (.invokevirtual 53, 3) := by decide +kernel
theorem dL_law_362 : decode cL_law 362 = .ok (.if_icmp .eq 262, 3) := by decide +kernel
theorem dL_law_365 : decode cL_law 365 = .ok (.iconst 0, 1) := by decide +kernel
theorem dL_law_366 : decode cL_law 366 = .ok (.ireturn, 1) := by decide +kernel
theorem dL_law_367 : decode cL_law 367 = .ok (.aload_n 1, 1) := by decide +kernel
theorem dL_law_368 : decode cL_law 368 = .ok (.aload_n 0, 1) := by decide +kernel
theorem dL_law_369 : decode cL_law 369 = .ok (.iload_n 3, 1) := by decide +kernel
theorem dL_law_370 : decode cL_law 370 = .ok (.iconst 1, 1) := by decide +kernel
theorem dL_law_371 : decode cL_law 371 = .ok (.iadd, 1) := by decide +kernel
theorem dL_law_372 : decode cL_law 372 = .ok (.iaload, 1) := by decide +kernel
theorem dL_law_373 : decode cL_law 373 = .ok (.aload_n 0, 1) := by decide +kernel
theorem dL_law_374 : decode cL_law 374 = .ok (.iload_n 3, 1) := by decide +kernel
theorem dL_law_375 : decode cL_law 375 = .ok (.iconst 2, 1) := by decide +kernel
theorem dL_law_376 : decode cL_law 376 = .ok (.iadd, 1) := by decide +kernel
theorem dL_law_377 : decode cL_law 377 = .ok (.iaload, 1) := by decide +kernel
theorem dL_law_378 : decode cL_law 378 = .ok (.invokevirtual 54, 3) := by decide +kernel
theorem dL_law_381 : decode cL_law 381 = .ok (.aload_n 2, 1) := by decide +kernel
theorem dL_law_382 : decode cL_law 382 = .ok (.aload_n 0, 1) := by decide +kernel
theorem dL_law_383 : decode cL_law 383 = .ok (.iload_n 3, 1) := by decide +kernel
theorem dL_law_384 : decode cL_law 384 = .ok (.iconst 1, 1) := by decide +kernel
theorem dL_law_385 : decode cL_law 385 = .ok (.iadd, 1) := by decide +kernel
theorem dL_law_386 : decode cL_law 386 = .ok (.iaload, 1) := by decide +kernel
theorem dL_law_387 : decode cL_law 387 = .ok (.aload_n 0, 1) := by decide +kernel
theorem dL_law_388 : decode cL_law 388 = .ok (.iload_n 3, 1) := by decide +kernel
theorem dL_law_389 : decode cL_law 389 = .ok (.iconst 2, 1) := by decide +kernel
theorem dL_law_390 : decode cL_law 390 = .ok (.iadd, 1) := by decide +kernel
theorem dL_law_391 : decode cL_law 391 = .ok (.iaload, 1) := by decide +kernel
theorem dL_law_392 : decode cL_law 392 = .ok (.invokevirtual 57, 3) := by decide +kernel
theorem dL_law_395 : decode cL_law 395 = .ok (.if_icmp .eq 229, 3) := by decide +kernel
theorem dL_law_398 : decode cL_law 398 = .ok (.iconst 0, 1) := by decide +kernel
theorem dL_law_399 : decode cL_law 399 = .ok (.ireturn, 1) := by decide +kernel
theorem dL_law_400 : decode cL_law 400 = .ok (.aload_n 1, 1) := by decide +kernel
theorem dL_law_401 : decode cL_law 401 = .ok (.aload_n 0, 1) := by decide +kernel
theorem dL_law_402 : decode cL_law 402 = .ok (.iload_n 3, 1) := by decide +kernel
theorem dL_law_403 : decode cL_law 403 = .ok (.iconst 1, 1) := by decide +kernel
theorem dL_law_404 : decode cL_law 404 = .ok (.iadd, 1) := by decide +kernel
theorem dL_law_405 : decode cL_law 405 = .ok (.iaload, 1) := by decide +kernel
theorem dL_law_406 : decode cL_law 406 = .ok (.aload_n 0, 1) := by decide +kernel
theorem dL_law_407 : decode cL_law 407 = .ok (.iload_n 3, 1) := by decide +kernel
theorem dL_law_408 : decode cL_law 408 = .ok (.iconst 2, 1) := by decide +kernel
theorem dL_law_409 : decode cL_law 409 = .ok (.iadd, 1) := by decide +kernel
theorem dL_law_410 : decode cL_law 410 = .ok (.iaload, 1) := by decide +kernel
theorem dL_law_411 : decode cL_law 411 = .ok (.invokevirtual 58, 3) := by decide +kernel
theorem dL_law_414 : decode cL_law 414 = .ok (.aload_n 2, 1) := by decide +kernel
theorem dL_law_415 : decode cL_law 415 = .ok (.aload_n 0, 1) := by decide +kernel
theorem dL_law_416 : decode cL_law 416 = .ok (.iload_n 3, 1) := by decide +kernel
theorem dL_law_417 : decode cL_law 417 = .ok (.iconst 1, 1) := by decide +kernel
theorem dL_law_418 : decode cL_law 418 = .ok (.iadd, 1) := by decide +kernel
theorem dL_law_419 : decode cL_law 419 = .ok (.iaload, 1) := by decide +kernel
theorem dL_law_420 : decode cL_law 420 = .ok (.aload_n 0, 1) := by decide +kernel
theorem dL_law_421 : decode cL_law 421 = .ok (.iload_n 3, 1) := by decide +kernel
theorem dL_law_422 : decode cL_law 422 = .ok (.iconst 2, 1) := by decide +kernel
theorem dL_law_423 : decode cL_law 423 = .ok (.iadd, 1) := by decide +kernel
theorem dL_law_424 : decode cL_law 424 = .ok (.iaload, 1) := by decide +kernel
theorem dL_law_425 : decode cL_law 425 = .ok (.invokevirtual 61, 3) := by decide +kernel
theorem dL_law_428 : decode cL_law 428 = .ok (.if_icmp .eq 196, 3) := by decide +kernel
theorem dL_law_431 : decode cL_law 431 = .ok (.iconst 0, 1) := by decide +kernel
theorem dL_law_432 : decode cL_law 432 = .ok (.ireturn, 1) := by decide +kernel
theorem dL_law_433 : decode cL_law 433 = .ok (.aload_n 1, 1) := by decide +kernel
theorem dL_law_434 : decode cL_law 434 = .ok (.aload_n 0, 1) := by decide +kernel
theorem dL_law_435 : decode cL_law 435 = .ok (.iload_n 3, 1) := by decide +kernel
theorem dL_law_436 : decode cL_law 436 = .ok (.iconst 1, 1) := by decide +kernel
theorem dL_law_437 : decode cL_law 437 = .ok (.iadd, 1) := by decide +kernel
theorem dL_law_438 : decode cL_law 438 = .ok (.iaload, 1) := by decide +kernel
theorem dL_law_439 : decode cL_law 439 = .ok (.aload_n 0, 1) := by decide +kernel
theorem dL_law_440 : decode cL_law 440 = .ok (.iload_n 3, 1) := by decide +kernel
theorem dL_law_441 : decode cL_law 441 = .ok (.iconst 2, 1) := by decide +kernel
theorem dL_law_442 : decode cL_law 442 = .ok (.iadd, 1) := by decide +kernel
theorem dL_law_443 : decode cL_law 443 = .ok (.iaload, 1) := by decide +kernel
theorem dL_law_444 : decode cL_law 444 = .ok (.invokevirtual 62, 3) := by decide +kernel
theorem dL_law_447 : decode cL_law 447 = .ok (.aload_n 2, 1) := by decide +kernel
theorem dL_law_448 : decode cL_law 448 = .ok (.aload_n 0, 1) := by decide +kernel
theorem dL_law_449 : decode cL_law 449 = .ok (.iload_n 3, 1) := by decide +kernel
theorem dL_law_450 : decode cL_law 450 = .ok (.iconst 1, 1) := by decide +kernel
theorem dL_law_451 : decode cL_law 451 = .ok (.iadd, 1) := by decide +kernel
theorem dL_law_452 : decode cL_law 452 = .ok (.iaload, 1) := by decide +kernel
theorem dL_law_453 : decode cL_law 453 = .ok (.aload_n 0, 1) := by decide +kernel
theorem dL_law_454 : decode cL_law 454 = .ok (.iload_n 3, 1) := by decide +kernel
theorem dL_law_455 : decode cL_law 455 = .ok (.iconst 2, 1) := by decide +kernel
theorem dL_law_456 : decode cL_law 456 = .ok (.iadd, 1) := by decide +kernel
theorem dL_law_457 : decode cL_law 457 = .ok (.iaload, 1) := by decide +kernel
theorem dL_law_458 : decode cL_law 458 = .ok (.invokevirtual 65, 3) := by decide +kernel
theorem dL_law_461 : decode cL_law 461 = .ok (.if_icmp .eq 163, 3) := by decide +kernel
theorem dL_law_464 : decode cL_law 464 = .ok (.iconst 0, 1) := by decide +kernel
theorem dL_law_465 : decode cL_law 465 = .ok (.ireturn, 1) := by decide +kernel
theorem dL_law_466 : decode cL_law 466 = .ok (.aload_n 1, 1) := by decide +kernel
theorem dL_law_467 : decode cL_law 467 = .ok (.aload_n 0, 1) := by decide +kernel
theorem dL_law_468 : decode cL_law 468 = .ok (.iload_n 3, 1) := by decide +kernel
theorem dL_law_469 : decode cL_law 469 = .ok (.iconst 1, 1) := by decide +kernel
theorem dL_law_470 : decode cL_law 470 = .ok (.iadd, 1) := by decide +kernel
theorem dL_law_471 : decode cL_law 471 = .ok (.iaload, 1) := by decide +kernel
theorem dL_law_472 : decode cL_law 472 = .ok (.aload_n 0, 1) := by decide +kernel
theorem dL_law_473 : decode cL_law 473 = .ok (.iload_n 3, 1) := by decide +kernel
theorem dL_law_474 : decode cL_law 474 = .ok (.iconst 2, 1) := by decide +kernel
theorem dL_law_475 : decode cL_law 475 = .ok (.iadd, 1) := by decide +kernel
theorem dL_law_476 : decode cL_law 476 = .ok (.iaload, 1) := by decide +kernel
theorem dL_law_477 : decode cL_law 477 = .ok (.invokevirtual 66, 3) := by decide +kernel
theorem dL_law_480 : decode cL_law 480 = .ok (.aload_n 2, 1) := by decide +kernel
theorem dL_law_481 : decode cL_law 481 = .ok (.aload_n 0, 1) := by decide +kernel
theorem dL_law_482 : decode cL_law 482 = .ok (.iload_n 3, 1) := by decide +kernel
theorem dL_law_483 : decode cL_law 483 = .ok (.iconst 1, 1) := by decide +kernel
theorem dL_law_484 : decode cL_law 484 = .ok (.iadd, 1) := by decide +kernel
theorem dL_law_485 : decode cL_law 485 = .ok (.iaload, 1) := by decide +kernel
theorem dL_law_486 : decode cL_law 486 = .ok (.aload_n 0, 1) := by decide +kernel
theorem dL_law_487 : decode cL_law 487 = .ok (.iload_n 3, 1) := by decide +kernel
theorem dL_law_488 : decode cL_law 488 = .ok (.iconst 2, 1) := by decide +kernel
theorem dL_law_489 : decode cL_law 489 = .ok (.iadd, 1) := by decide +kernel
theorem dL_law_490 : decode cL_law 490 = .ok (.iaload, 1) := by decide +kernel
theorem dL_law_491 : decode cL_law 491 = .ok (.invokevirtual 69, 3) := by decide +kernel
theorem dL_law_494 : decode cL_law 494 = .ok (.if_icmp .eq 130, 3) := by decide +kernel
theorem dL_law_497 : decode cL_law 497 = .ok (.iconst 0, 1) := by decide +kernel
theorem dL_law_498 : decode cL_law 498 = .ok (.ireturn, 1) := by decide +kernel
theorem dL_law_499 : decode cL_law 499 = .ok (.aload_n 1, 1) := by decide +kernel
theorem dL_law_500 : decode cL_law 500 = .ok (.aload_n 0, 1) := by decide +kernel
theorem dL_law_501 : decode cL_law 501 = .ok (.iload_n 3, 1) := by decide +kernel
theorem dL_law_502 : decode cL_law 502 = .ok (.iconst 1, 1) := by decide +kernel
theorem dL_law_503 : decode cL_law 503 = .ok (.iadd, 1) := by decide +kernel
theorem dL_law_504 : decode cL_law 504 = .ok (.iaload, 1) := by decide +kernel
theorem dL_law_505 : decode cL_law 505 = .ok (.invokevirtual 70, 3) := by decide +kernel
theorem dL_law_508 : decode cL_law 508 = .ok (.aload_n 2, 1) := by decide +kernel
theorem dL_law_509 : decode cL_law 509 = .ok (.aload_n 0, 1) := by decide +kernel
theorem dL_law_510 : decode cL_law 510 = .ok (.iload_n 3, 1) := by decide +kernel
theorem dL_law_511 : decode cL_law 511 = .ok (.iconst 1, 1) := by decide +kernel
theorem dL_law_512 : decode cL_law 512 = .ok (.iadd, 1) := by decide +kernel
theorem dL_law_513 : decode cL_law 513 = .ok (.iaload, 1) := by decide +kernel
theorem dL_law_514 : decode cL_law 514 = .ok (.invokevirtual 73, 3) := by decide +kernel
theorem dL_law_517 : decode cL_law 517 = .ok (.if_icmp .eq 107, 3) := by decide +kernel
theorem dL_law_520 : decode cL_law 520 = .ok (.iconst 0, 1) := by decide +kernel
theorem dL_law_521 : decode cL_law 521 = .ok (.ireturn, 1) := by decide +kernel
theorem dL_law_522 : decode cL_law 522 = .ok (.aload_n 1, 1) := by decide +kernel
theorem dL_law_523 : decode cL_law 523 = .ok (.aload_n 0, 1) := by decide +kernel
theorem dL_law_524 : decode cL_law 524 = .ok (.iload_n 3, 1) := by decide +kernel
theorem dL_law_525 : decode cL_law 525 = .ok (.iconst 1, 1) := by decide +kernel
theorem dL_law_526 : decode cL_law 526 = .ok (.iadd, 1) := by decide +kernel
theorem dL_law_527 : decode cL_law 527 = .ok (.iaload, 1) := by decide +kernel
theorem dL_law_528 : decode cL_law 528 = .ok (.invokevirtual 74, 3) := by decide +kernel
theorem dL_law_531 : decode cL_law 531 = .ok (.aload_n 2, 1) := by decide +kernel
theorem dL_law_532 : decode cL_law 532 = .ok (.aload_n 0, 1) := by decide +kernel
theorem dL_law_533 : decode cL_law 533 = .ok (.iload_n 3, 1) := by decide +kernel
theorem dL_law_534 : decode cL_law 534 = .ok (.iconst 1, 1) := by decide +kernel
theorem dL_law_535 : decode cL_law 535 = .ok (.iadd, 1) := by decide +kernel
theorem dL_law_536 : decode cL_law 536 = .ok (.iaload, 1) := by decide +kernel
theorem dL_law_537 : decode cL_law 537 = .ok (.invokevirtual 77, 3) := by decide +kernel
theorem dL_law_540 : decode cL_law 540 = .ok (.if_icmp .eq 84, 3) := by decide +kernel
theorem dL_law_543 : decode cL_law 543 = .ok (.iconst 0, 1) := by decide +kernel
theorem dL_law_544 : decode cL_law 544 = .ok (.ireturn, 1) := by decide +kernel
theorem dL_law_545 : decode cL_law 545 = .ok (.aload_n 1, 1) := by decide +kernel
theorem dL_law_546 : decode cL_law 546 = .ok (.aload_n 0, 1) := by decide +kernel
theorem dL_law_547 : decode cL_law 547 = .ok (.iload_n 3, 1) := by decide +kernel
theorem dL_law_548 : decode cL_law 548 = .ok (.iconst 1, 1) := by decide +kernel
theorem dL_law_549 : decode cL_law 549 = .ok (.iadd, 1) := by decide +kernel
theorem dL_law_550 : decode cL_law 550 = .ok (.iaload, 1) := by decide +kernel
theorem dL_law_551 : decode cL_law 551 = .ok (.aload_n 0, 1) := by decide +kernel
theorem dL_law_552 : decode cL_law 552 = .ok (.iload_n 3, 1) := by decide +kernel
theorem dL_law_553 : decode cL_law 553 = .ok (.iconst 2, 1) := by decide +kernel
theorem dL_law_554 : decode cL_law 554 = .ok (.iadd, 1) := by decide +kernel
theorem dL_law_555 : decode cL_law 555 = .ok (.iaload, 1) := by decide +kernel
theorem dL_law_556 : decode cL_law 556 = .ok (.invokevirtual 78, 3) := by decide +kernel
theorem dL_law_559 : decode cL_law 559 = .ok (.aload_n 2, 1) := by decide +kernel
theorem dL_law_560 : decode cL_law 560 = .ok (.aload_n 0, 1) := by decide +kernel
theorem dL_law_561 : decode cL_law 561 = .ok (.iload_n 3, 1) := by decide +kernel
theorem dL_law_562 : decode cL_law 562 = .ok (.iconst 1, 1) := by decide +kernel
theorem dL_law_563 : decode cL_law 563 = .ok (.iadd, 1) := by decide +kernel
theorem dL_law_564 : decode cL_law 564 = .ok (.iaload, 1) := by decide +kernel
theorem dL_law_565 : decode cL_law 565 = .ok (.aload_n 0, 1) := by decide +kernel
theorem dL_law_566 : decode cL_law 566 = .ok (.iload_n 3, 1) := by decide +kernel
theorem dL_law_567 : decode cL_law 567 = .ok (.iconst 2, 1) := by decide +kernel
theorem dL_law_568 : decode cL_law 568 = .ok (.iadd, 1) := by decide +kernel
theorem dL_law_569 : decode cL_law 569 = .ok (.iaload, 1) := by decide +kernel
theorem dL_law_570 : decode cL_law 570 = .ok (.invokevirtual 81, 3) := by decide +kernel
theorem dL_law_573 : decode cL_law 573 = .ok (.if_icmp .eq 51, 3) := by decide +kernel
theorem dL_law_576 : decode cL_law 576 = .ok (.iconst 0, 1) := by decide +kernel
theorem dL_law_577 : decode cL_law 577 = .ok (.ireturn, 1) := by decide +kernel
theorem dL_law_578 : decode cL_law 578 = .ok (.aload_n 1, 1) := by decide +kernel
theorem dL_law_579 : decode cL_law 579 = .ok (.aload_n 0, 1) := by decide +kernel
theorem dL_law_580 : decode cL_law 580 = .ok (.iload_n 3, 1) := by decide +kernel
theorem dL_law_581 : decode cL_law 581 = .ok (.iconst 1, 1) := by decide +kernel
theorem dL_law_582 : decode cL_law 582 = .ok (.iadd, 1) := by decide +kernel
theorem dL_law_583 : decode cL_law 583 = .ok (.iaload, 1) := by decide +kernel
theorem dL_law_584 : decode cL_law 584 = .ok (.invokevirtual 82, 3) := by decide +kernel
theorem dL_law_587 : decode cL_law 587 = .ok (.aload_n 2, 1) := by decide +kernel
theorem dL_law_588 : decode cL_law 588 = .ok (.aload_n 0, 1) := by decide +kernel
theorem dL_law_589 : decode cL_law 589 = .ok (.iload_n 3, 1) := by decide +kernel
theorem dL_law_590 : decode cL_law 590 = .ok (.iconst 1, 1) := by decide +kernel
theorem dL_law_591 : decode cL_law 591 = .ok (.iadd, 1) := by decide +kernel
theorem dL_law_592 : decode cL_law 592 = .ok (.iaload, 1) := by decide +kernel
theorem dL_law_593 : decode cL_law 593 = .ok (.invokevirtual 85, 3) := by decide +kernel
theorem dL_law_596 : decode cL_law 596 = .ok (.if_icmp .eq 28, 3) := by decide +kernel
theorem dL_law_599 : decode cL_law 599 = .ok (.iconst 0, 1) := by decide +kernel
theorem dL_law_600 : decode cL_law 600 = .ok (.ireturn, 1) := by decide +kernel
theorem dL_law_601 : decode cL_law 601 = .ok (.aload_n 1, 1) := by decide +kernel
theorem dL_law_602 : decode cL_law 602 = .ok (.aload_n 0, 1) := by decide +kernel
theorem dL_law_603 : decode cL_law 603 = .ok (.iload_n 3, 1) := by decide +kernel
theorem dL_law_604 : decode cL_law 604 = .ok (.iconst 1, 1) := by decide +kernel
theorem dL_law_605 : decode cL_law 605 = .ok (.iadd, 1) := by decide +kernel
theorem dL_law_606 : decode cL_law 606 = .ok (.iaload, 1) := by decide +kernel
theorem dL_law_607 : decode cL_law 607 = .ok (.invokevirtual 86, 3) := by decide +kernel
theorem dL_law_610 : decode cL_law 610 = .ok (.aload_n 2, 1) := by decide +kernel
theorem dL_law_611 : decode cL_law 611 = .ok (.aload_n 0, 1) := by decide +kernel
theorem dL_law_612 : decode cL_law 612 = .ok (.iload_n 3, 1) := by decide +kernel
theorem dL_law_613 : decode cL_law 613 = .ok (.iconst 1, 1) := by decide +kernel
theorem dL_law_614 : decode cL_law 614 = .ok (.iadd, 1) := by decide +kernel
theorem dL_law_615 : decode cL_law 615 = .ok (.iaload, 1) := by decide +kernel
theorem dL_law_616 : decode cL_law 616 = .ok (.invokevirtual 89, 3) := by decide +kernel
theorem dL_law_619 : decode cL_law 619 = .ok (.if_icmp .eq 5, 3) := by decide +kernel
theorem dL_law_622 : decode cL_law 622 = .ok (.iconst 0, 1) := by decide +kernel
theorem dL_law_623 : decode cL_law 623 = .ok (.ireturn, 1) := by decide +kernel
theorem dL_law_624 : decode cL_law 624 = .ok (.iinc 3 5, 3) := by decide +kernel
theorem dL_law_627 : decode cL_law 627 = .ok (.goto (-609), 3) := by decide +kernel
theorem dL_law_630 : decode cL_law 630 = .ok (.iconst 1, 1) := by decide +kernel
theorem dL_law_631 : decode cL_law 631 = .ok (.ireturn, 1) := by decide +kernel
end
section
theorem in_r1 : ∀ w ∈ wsL_law_r1, w ∈ wsL_law := fun _ h => List.mem_append_left _ (List.mem_append_left _ (List.mem_append_left _ (List.mem_append_left _ (List.mem_append_left _ (List.mem_append_left _ (List.mem_append_left _ (List.mem_append_left _ h)))))))
theorem in_r2 : ∀ w ∈ wsL_law_r2, w ∈ wsL_law := fun _ h => List.mem_append_left _ (List.mem_append_left _ (List.mem_append_left _ (List.mem_append_left _ (List.mem_append_left _ (List.mem_append_left _ (List.mem_append_left _ (List.mem_append_right _ (List.mem_append_left _ h))))))))
theorem in_r3 : ∀ w ∈ wsL_law_r3, w ∈ wsL_law := fun _ h => List.mem_append_left _ (List.mem_append_left _ (List.mem_append_left _ (List.mem_append_left _ (List.mem_append_left _ (List.mem_append_left _ (List.mem_append_left _ (List.mem_append_right _ (List.mem_append_right _ (List.mem_append_left _ h)))))))))
theorem in_r4 : ∀ w ∈ wsL_law_r4, w ∈ wsL_law := fun _ h => List.mem_append_left _ (List.mem_append_left _ (List.mem_append_left _ (List.mem_append_left _ (List.mem_append_left _ (List.mem_append_left _ (List.mem_append_left _ (List.mem_append_right _ (List.mem_append_right _ (List.mem_append_right _ (List.mem_append_left _ h))))))))))
theorem in_r5 : ∀ w ∈ wsL_law_r5, w ∈ wsL_law := fun _ h => List.mem_append_left _ (List.mem_append_left _ (List.mem_append_left _ (List.mem_append_left _ (List.mem_append_left _ (List.mem_append_left _ (List.mem_append_left _ (List.mem_append_right _ (List.mem_append_right _ (List.mem_append_right _ (List.mem_append_right _ (List.mem_append_left _ h)))))))))))
theorem in_r6 : ∀ w ∈ wsL_law_r6, w ∈ wsL_law := fun _ h => List.mem_append_left _ (List.mem_append_left _ (List.mem_append_left _ (List.mem_append_left _ (List.mem_append_left _ (List.mem_append_left _ (List.mem_append_left _ (List.mem_append_right _ (List.mem_append_right _ (List.mem_append_right _ (List.mem_append_right _ (List.mem_append_right _ (List.mem_append_left _ h))))))))))))
theorem in_r7 : ∀ w ∈ wsL_law_r7, w ∈ wsL_law := fun _ h => List.mem_append_left _ (List.mem_append_left _ (List.mem_append_left _ (List.mem_append_left _ (List.mem_append_left _ (List.mem_append_left _ (List.mem_append_left _ (List.mem_append_right _ (List.mem_append_right _ (List.mem_append_right _ (List.mem_append_right _ (List.mem_append_right _ (List.mem_append_right _ (List.mem_append_left _ h)))))))))))))
theorem in_r8 : ∀ w ∈ wsL_law_r8, w ∈ wsL_law := fun _ h => List.mem_append_left _ (List.mem_append_left _ (List.mem_append_left _ (List.mem_append_left _ (List.mem_append_left _ (List.mem_append_left _ (List.mem_append_left _ (List.mem_append_right _ (List.mem_append_right _ (List.mem_append_right _ (List.mem_append_right _ (List.mem_append_right _ (List.mem_append_right _ (List.mem_append_right _ (List.mem_append_left _ h))))))))))))))
theorem in_r9 : ∀ w ∈ wsL_law_r9, w ∈ wsL_law := fun _ h => List.mem_append_left _ (List.mem_append_left _ (List.mem_append_left _ (List.mem_append_left _ (List.mem_append_left _ (List.mem_append_left _ (List.mem_append_left _ (List.mem_append_right _ (List.mem_append_right _ (List.mem_append_right _ (List.mem_append_right _ (List.mem_append_right _ (List.mem_append_right _ (List.mem_append_right _ (List.mem_append_right _ (List.mem_append_left _ h)))))))))))))))
theorem in_r10 : ∀ w ∈ wsL_law_r10, w ∈ wsL_law := fun _ h => List.mem_append_left _ (List.mem_append_left _ (List.mem_append_left _ (List.mem_append_left _ (List.mem_append_left _ (List.mem_append_left _ (List.mem_append_left _ (List.mem_append_right _ (List.mem_append_right _ (List.mem_append_right _ (List.mem_append_right _ (List.mem_append_right _ (List.mem_append_right _ (List.mem_append_right _ (List.mem_append_right _ (List.mem_append_right _ (List.mem_append_left _ h))))))))))))))))
theorem in_r11 : ∀ w ∈ wsL_law_r11, w ∈ wsL_law := fun _ h => List.mem_append_left _ (List.mem_append_left _ (List.mem_append_left _ (List.mem_append_left _ (List.mem_append_left _ (List.mem_append_left _ (List.mem_append_left _ (List.mem_append_right _ (List.mem_append_right _ (List.mem_append_right _ (List.mem_append_right _ (List.mem_append_right _ (List.mem_append_right _ (List.mem_append_right _ (List.mem_append_right _ (List.mem_append_right _ (List.mem_append_right _ (List.mem_append_left _ h)))))))))))))))))
theorem in_r12 : ∀ w ∈ wsL_law_r12, w ∈ wsL_law := fun _ h => List.mem_append_left _ (List.mem_append_left _ (List.mem_append_left _ (List.mem_append_left _ (List.mem_append_left _ (List.mem_append_left _ (List.mem_append_left _ (List.mem_append_right _ (List.mem_append_right _ (List.mem_append_right _ (List.mem_append_right _ (List.mem_append_right _ (List.mem_append_right _ (List.mem_append_right _ (List.mem_append_right _ (List.mem_append_right _ (List.mem_append_right _ (List.mem_append_right _ (List.mem_append_left _ h))))))))))))))))))
theorem in_r13 : ∀ w ∈ wsL_law_r13, w ∈ wsL_law := fun _ h => List.mem_append_left _ (List.mem_append_left _ (List.mem_append_left _ (List.mem_append_left _ (List.mem_append_left _ (List.mem_append_left _ (List.mem_append_left _ (List.mem_append_right _ (List.mem_append_right _ (List.mem_append_right _ (List.mem_append_right _ (List.mem_append_right _ (List.mem_append_right _ (List.mem_append_right _ (List.mem_append_right _ (List.mem_append_right _ (List.mem_append_right _ (List.mem_append_right _ (List.mem_append_right _ (List.mem_append_left _ h)))))))))))))))))))
theorem in_r14 : ∀ w ∈ wsL_law_r14, w ∈ wsL_law := fun _ h => List.mem_append_left _ (List.mem_append_left _ (List.mem_append_left _ (List.mem_append_left _ (List.mem_append_left _ (List.mem_append_left _ (List.mem_append_left _ (List.mem_append_right _ (List.mem_append_right _ (List.mem_append_right _ (List.mem_append_right _ (List.mem_append_right _ (List.mem_append_right _ (List.mem_append_right _ (List.mem_append_right _ (List.mem_append_right _ (List.mem_append_right _ (List.mem_append_right _ (List.mem_append_right _ (List.mem_append_right _ (List.mem_append_left _ h))))))))))))))))))))
theorem in_r15 : ∀ w ∈ wsL_law_r15, w ∈ wsL_law := fun _ h => List.mem_append_left _ (List.mem_append_left _ (List.mem_append_left _ (List.mem_append_left _ (List.mem_append_left _ (List.mem_append_left _ (List.mem_append_left _ (List.mem_append_right _ (List.mem_append_right _ (List.mem_append_right _ (List.mem_append_right _ (List.mem_append_right _ (List.mem_append_right _ (List.mem_append_right _ (List.mem_append_right _ (List.mem_append_right _ (List.mem_append_right _ (List.mem_append_right _ (List.mem_append_right _ (List.mem_append_right _ (List.mem_append_right _ (List.mem_append_left _ h)))))))))))))))))))))
theorem in_r16 : ∀ w ∈ wsL_law_r16, w ∈ wsL_law := fun _ h => List.mem_append_left _ (List.mem_append_left _ (List.mem_append_left _ (List.mem_append_left _ (List.mem_append_left _ (List.mem_append_left _ (List.mem_append_left _ (List.mem_append_right _ (List.mem_append_right _ (List.mem_append_right _ (List.mem_append_right _ (List.mem_append_right _ (List.mem_append_right _ (List.mem_append_right _ (List.mem_append_right _ (List.mem_append_right _ (List.mem_append_right _ (List.mem_append_right _ (List.mem_append_right _ (List.mem_append_right _ (List.mem_append_right _ (List.mem_append_right _ (List.mem_append_left _ h))))))))))))))))))))))
theorem in_r17 : ∀ w ∈ wsL_law_r17, w ∈ wsL_law := fun _ h => List.mem_append_left _ (List.mem_append_left _ (List.mem_append_left _ (List.mem_append_left _ (List.mem_append_left _ (List.mem_append_left _ (List.mem_append_left _ (List.mem_append_right _ (List.mem_append_right _ (List.mem_append_right _ (List.mem_append_right _ (List.mem_append_right _ (List.mem_append_right _ (List.mem_append_right _ (List.mem_append_right _ (List.mem_append_right _ (List.mem_append_right _ (List.mem_append_right _ (List.mem_append_right _ (List.mem_append_right _ (List.mem_append_right _ (List.mem_append_right _ (List.mem_append_right _ (List.mem_append_left _ h)))))))))))))))))))))))
theorem in_r18 : ∀ w ∈ wsL_law_r18, w ∈ wsL_law := fun _ h => List.mem_append_left _ (List.mem_append_left _ (List.mem_append_left _ (List.mem_append_left _ (List.mem_append_left _ (List.mem_append_left _ (List.mem_append_left _ (List.mem_append_right _ (List.mem_append_right _ (List.mem_append_right _ (List.mem_append_right _ (List.mem_append_right _ (List.mem_append_right _ (List.mem_append_right _ (List.mem_append_right _ (List.mem_append_right _ (List.mem_append_right _ (List.mem_append_right _ (List.mem_append_right _ (List.mem_append_right _ (List.mem_append_right _ (List.mem_append_right _ (List.mem_append_right _ (List.mem_append_right _ (List.mem_append_left _ h))))))))))))))))))))))))
theorem in_r19 : ∀ w ∈ wsL_law_r19, w ∈ wsL_law := fun _ h => List.mem_append_left _ (List.mem_append_left _ (List.mem_append_left _ (List.mem_append_left _ (List.mem_append_left _ (List.mem_append_left _ (List.mem_append_left _ (List.mem_append_right _ (List.mem_append_right _ (List.mem_append_right _ (List.mem_append_right _ (List.mem_append_right _ (List.mem_append_right _ (List.mem_append_right _ (List.mem_append_right _ (List.mem_append_right _ (List.mem_append_right _ (List.mem_append_right _ (List.mem_append_right _ (List.mem_append_right _ (List.mem_append_right _ (List.mem_append_right _ (List.mem_append_right _ (List.mem_append_right _ (List.mem_append_right _ (List.mem_append_left _ h)))))))))))))))))))))))))
theorem in_r20 : ∀ w ∈ wsL_law_r20, w ∈ wsL_law := fun _ h => List.mem_append_left _ (List.mem_append_left _ (List.mem_append_left _ (List.mem_append_left _ (List.mem_append_left _ (List.mem_append_left _ (List.mem_append_left _ (List.mem_append_right _ (List.mem_append_right _ (List.mem_append_right _ (List.mem_append_right _ (List.mem_append_right _ (List.mem_append_right _ (List.mem_append_right _ (List.mem_append_right _ (List.mem_append_right _ (List.mem_append_right _ (List.mem_append_right _ (List.mem_append_right _ (List.mem_append_right _ (List.mem_append_right _ (List.mem_append_right _ (List.mem_append_right _ (List.mem_append_right _ (List.mem_append_right _ (List.mem_append_right _ (List.mem_append_left _ h))))))))))))))))))))))))))
theorem in_r21 : ∀ w ∈ wsL_law_r21, w ∈ wsL_law := fun _ h => List.mem_append_left _ (List.mem_append_left _ (List.mem_append_left _ (List.mem_append_left _ (List.mem_append_left _ (List.mem_append_left _ (List.mem_append_left _ (List.mem_append_right _ (List.mem_append_right _ (List.mem_append_right _ (List.mem_append_right _ (List.mem_append_right _ (List.mem_append_right _ (List.mem_append_right _ (List.mem_append_right _ (List.mem_append_right _ (List.mem_append_right _ (List.mem_append_right _ (List.mem_append_right _ (List.mem_append_right _ (List.mem_append_right _ (List.mem_append_right _ (List.mem_append_right _ (List.mem_append_right _ (List.mem_append_right _ (List.mem_append_right _ (List.mem_append_right _ (List.mem_append_left _ h)))))))))))))))))))))))))))
theorem in_r22 : ∀ w ∈ wsL_law_r22, w ∈ wsL_law := fun _ h => List.mem_append_left _ (List.mem_append_left _ (List.mem_append_left _ (List.mem_append_left _ (List.mem_append_left _ (List.mem_append_left _ (List.mem_append_left _ (List.mem_append_right _ (List.mem_append_right _ (List.mem_append_right _ (List.mem_append_right _ (List.mem_append_right _ (List.mem_append_right _ (List.mem_append_right _ (List.mem_append_right _ (List.mem_append_right _ (List.mem_append_right _ (List.mem_append_right _ (List.mem_append_right _ (List.mem_append_right _ (List.mem_append_right _ (List.mem_append_right _ (List.mem_append_right _ (List.mem_append_right _ (List.mem_append_right _ (List.mem_append_right _ (List.mem_append_right _ (List.mem_append_right _ (List.mem_append_left _ h))))))))))))))))))))))))))))
theorem in_r23 : ∀ w ∈ wsL_law_r23, w ∈ wsL_law := fun _ h => List.mem_append_left _ (List.mem_append_left _ (List.mem_append_left _ (List.mem_append_left _ (List.mem_append_left _ (List.mem_append_left _ (List.mem_append_left _ (List.mem_append_right _ (List.mem_append_right _ (List.mem_append_right _ (List.mem_append_right _ (List.mem_append_right _ (List.mem_append_right _ (List.mem_append_right _ (List.mem_append_right _ (List.mem_append_right _ (List.mem_append_right _ (List.mem_append_right _ (List.mem_append_right _ (List.mem_append_right _ (List.mem_append_right _ (List.mem_append_right _ (List.mem_append_right _ (List.mem_append_right _ (List.mem_append_right _ (List.mem_append_right _ (List.mem_append_right _ (List.mem_append_right _ (List.mem_append_right _ (List.mem_append_left _ h)))))))))))))))))))))))))))))
theorem in_r24 : ∀ w ∈ wsL_law_r24, w ∈ wsL_law := fun _ h => List.mem_append_left _ (List.mem_append_left _ (List.mem_append_left _ (List.mem_append_left _ (List.mem_append_left _ (List.mem_append_left _ (List.mem_append_left _ (List.mem_append_right _ (List.mem_append_right _ (List.mem_append_right _ (List.mem_append_right _ (List.mem_append_right _ (List.mem_append_right _ (List.mem_append_right _ (List.mem_append_right _ (List.mem_append_right _ (List.mem_append_right _ (List.mem_append_right _ (List.mem_append_right _ (List.mem_append_right _ (List.mem_append_right _ (List.mem_append_right _ (List.mem_append_right _ (List.mem_append_right _ (List.mem_append_right _ (List.mem_append_right _ (List.mem_append_right _ (List.mem_append_right _ (List.mem_append_right _ (List.mem_append_right _ (List.mem_append_left _ h))))))))))))))))))))))))))))))
theorem in_r25 : ∀ w ∈ wsL_law_r25, w ∈ wsL_law := fun _ h => List.mem_append_left _ (List.mem_append_left _ (List.mem_append_left _ (List.mem_append_left _ (List.mem_append_left _ (List.mem_append_left _ (List.mem_append_left _ (List.mem_append_right _ (List.mem_append_right _ (List.mem_append_right _ (List.mem_append_right _ (List.mem_append_right _ (List.mem_append_right _ (List.mem_append_right _ (List.mem_append_right _ (List.mem_append_right _ (List.mem_append_right _ (List.mem_append_right _ (List.mem_append_right _ (List.mem_append_right _ (List.mem_append_right _ (List.mem_append_right _ (List.mem_append_right _ (List.mem_append_right _ (List.mem_append_right _ (List.mem_append_right _ (List.mem_append_right _ (List.mem_append_right _ (List.mem_append_right _ (List.mem_append_right _ (List.mem_append_right _ (List.mem_append_left _ h)))))))))))))))))))))))))))))))
theorem in_r26 : ∀ w ∈ wsL_law_r26, w ∈ wsL_law := fun _ h => List.mem_append_left _ (List.mem_append_left _ (List.mem_append_left _ (List.mem_append_left _ (List.mem_append_left _ (List.mem_append_left _ (List.mem_append_left _ (List.mem_append_right _ (List.mem_append_right _ (List.mem_append_right _ (List.mem_append_right _ (List.mem_append_right _ (List.mem_append_right _ (List.mem_append_right _ (List.mem_append_right _ (List.mem_append_right _ (List.mem_append_right _ (List.mem_append_right _ (List.mem_append_right _ (List.mem_append_right _ (List.mem_append_right _ (List.mem_append_right _ (List.mem_append_right _ (List.mem_append_right _ (List.mem_append_right _ (List.mem_append_right _ (List.mem_append_right _ (List.mem_append_right _ (List.mem_append_right _ (List.mem_append_right _ (List.mem_append_right _ (List.mem_append_right _ (h))))))))))))))))))))))))))))))))
theorem wd_ck_L_7 : Cond.classLink RL 7 RX4 ∈ wsL_law := in_r1 _ (List.mem_of_getElem? (i := 0) rfl)
theorem wd_ins_X4 : Cond.instantiable RX4 6 ∈ wsL_law := in_r1 _ (List.mem_of_getElem? (i := 1) rfl)
theorem wd_ini_X4 : Cond.initialized RX4 ∈ wsL_law := in_r1 _ (List.mem_of_getElem? (i := 2) rfl)
theorem wd_ck_L_10 : Cond.classLink RL 10 RX5 ∈ wsL_law := in_r1 _ (List.mem_of_getElem? (i := 3) rfl)
theorem wd_ins_X5 : Cond.instantiable RX5 6 ∈ wsL_law := in_r1 _ (List.mem_of_getElem? (i := 4) rfl)
theorem wd_ini_X5 : Cond.initialized RX5 ∈ wsL_law := in_r1 _ (List.mem_of_getElem? (i := 5) rfl)
theorem wd_ml_L_9 : Cond.methodLink RL 9 yX4_init ∈ wsL_law := in_r1 _ (List.mem_of_getElem? (i := 6) rfl)
theorem wd_im_X4_init : Cond.instanceMethod yX4_init ∈ wsL_law := in_r1 _ (List.mem_of_getElem? (i := 7) rfl)
theorem wd_co_X4_init : Cond.code yX4_init cX4_init 2 none ∈ wsL_law := in_r1 _ (List.mem_of_getElem? (i := 8) rfl)
theorem wd_ml_X4_1 : Cond.methodLink RX4 1 objectInit ∈ wsL_law := in_r1 _ (List.mem_of_getElem? (i := 9) rfl)
theorem wd_im_objectInit : Cond.instanceMethod objectInit ∈ wsL_law := in_r1 _ (List.mem_of_getElem? (i := 10) rfl)
theorem wd_co_objectInit : Cond.code objectInit ⟨#[0xb1]⟩ 1 none ∈ wsL_law := in_r1 _ (List.mem_of_getElem? (i := 11) rfl)
theorem wd_ck_X4_7 : Cond.classLink RX4 7 RX3 ∈ wsL_law := in_r1 _ (List.mem_of_getElem? (i := 12) rfl)
theorem wd_ins_X3 : Cond.instantiable RX3 12 ∈ wsL_law := in_r1 _ (List.mem_of_getElem? (i := 13) rfl)
theorem wd_ini_X3 : Cond.initialized RX3 ∈ wsL_law := in_r1 _ (List.mem_of_getElem? (i := 14) rfl)
theorem wd_fk_X4_10 : Cond.fieldLink RX4 10 "SafeParts" "world" "LSafeParts$World;" ∈ wsL_law := in_r1 _ (List.mem_of_getElem? (i := 15) rfl)
theorem wd_fk_X4_16 : Cond.fieldLink RX4 16 "SafeParts" "trial" "LSafeParts$World;" ∈ wsL_law := in_r1 _ (List.mem_of_getElem? (i := 16) rfl)
theorem wd_fk_X4_19 : Cond.fieldLink RX4 19 "SafeParts" "images" "[LSafeParts$World;" ∈ wsL_law := in_r1 _ (List.mem_of_getElem? (i := 17) rfl)
theorem wd_ac_boolean : Cond.arrayClass .boolean ∈ wsL_law := in_r1 _ (List.mem_of_getElem? (i := 18) rfl)
theorem wd_fk_X4_23 : Cond.fieldLink RX4 23 "SafeParts" "isKept" "[Z" ∈ wsL_law := in_r1 _ (List.mem_of_getElem? (i := 19) rfl)
theorem wd_ck_X4_27 : Cond.classLink RX4 27 RX1 ∈ wsL_law := in_r1 _ (List.mem_of_getElem? (i := 20) rfl)
theorem wd_ins_X1 : Cond.instantiable RX1 5 ∈ wsL_law := in_r1 _ (List.mem_of_getElem? (i := 21) rfl)
theorem wd_ini_X1 : Cond.initialized RX1 ∈ wsL_law := in_r1 _ (List.mem_of_getElem? (i := 22) rfl)
theorem wd_fk_X4_30 : Cond.fieldLink RX4 30 "SafeParts" "log" "LSafeParts$Log;" ∈ wsL_law := in_r1 _ (List.mem_of_getElem? (i := 23) rfl)
theorem wd_ac_int : Cond.arrayClass .int ∈ wsL_law := in_r2 _ (List.mem_of_getElem? (i := 0) rfl)
theorem wd_fk_X4_34 : Cond.fieldLink RX4 34 "SafeParts" "leastTo" "[I" ∈ wsL_law := in_r2 _ (List.mem_of_getElem? (i := 1) rfl)
theorem wd_ml_X4_9 : Cond.methodLink RX4 9 yX3_init ∈ wsL_law := in_r2 _ (List.mem_of_getElem? (i := 2) rfl)
theorem wd_im_X3_init : Cond.instanceMethod yX3_init ∈ wsL_law := in_r2 _ (List.mem_of_getElem? (i := 3) rfl)
theorem wd_co_X3_init : Cond.code yX3_init cX3_init 2 none ∈ wsL_law := in_r2 _ (List.mem_of_getElem? (i := 4) rfl)
theorem wd_ml_X3_3 : Cond.methodLink RX3 3 objectInit ∈ wsL_law := in_r2 _ (List.mem_of_getElem? (i := 5) rfl)
theorem wd_ck_X3_9 : Cond.classLink RX3 9 RX0 ∈ wsL_law := in_r2 _ (List.mem_of_getElem? (i := 6) rfl)
theorem wd_ins_X0 : Cond.instantiable RX0 8 ∈ wsL_law := in_r2 _ (List.mem_of_getElem? (i := 7) rfl)
theorem wd_ini_X0 : Cond.initialized RX0 ∈ wsL_law := in_r2 _ (List.mem_of_getElem? (i := 8) rfl)
theorem wd_fk_X3_12 : Cond.fieldLink RX3 12 "SafeParts$World" "channels" "LSafeParts$Channels;" ∈ wsL_law := in_r2 _ (List.mem_of_getElem? (i := 9) rfl)
theorem wd_ck_X3_18 : Cond.classLink RX3 18 RX2 ∈ wsL_law := in_r2 _ (List.mem_of_getElem? (i := 10) rfl)
theorem wd_fk_X3_20 : Cond.fieldLink RX3 20 "SafeParts$World" "waiting" "[LSafeParts$Waiting;" ∈ wsL_law := in_r2 _ (List.mem_of_getElem? (i := 11) rfl)
theorem wd_fk_X3_24 : Cond.fieldLink RX3 24 "SafeParts$World" "count" "[I" ∈ wsL_law := in_r2 _ (List.mem_of_getElem? (i := 12) rfl)
theorem wd_fk_X3_28 : Cond.fieldLink RX3 28 "SafeParts$World" "sum" "[I" ∈ wsL_law := in_r2 _ (List.mem_of_getElem? (i := 13) rfl)
theorem wd_fk_X3_31 : Cond.fieldLink RX3 31 "SafeParts$World" "now" "[I" ∈ wsL_law := in_r2 _ (List.mem_of_getElem? (i := 14) rfl)
theorem wd_fk_X3_34 : Cond.fieldLink RX3 34 "SafeParts$World" "formNow" "I" ∈ wsL_law := in_r2 _ (List.mem_of_getElem? (i := 15) rfl)
theorem wd_ins_X2 : Cond.instantiable RX2 4 ∈ wsL_law := in_r2 _ (List.mem_of_getElem? (i := 16) rfl)
theorem wd_ini_X2 : Cond.initialized RX2 ∈ wsL_law := in_r2 _ (List.mem_of_getElem? (i := 17) rfl)
theorem wd_im_X0_init : Cond.instanceMethod yX0_init ∈ wsL_law := in_r2 _ (List.mem_of_getElem? (i := 18) rfl)
theorem wd_co_X0_init : Cond.code yX0_init cX0_init 1 none ∈ wsL_law := in_r2 _ (List.mem_of_getElem? (i := 19) rfl)
theorem wd_ml_X0_3 : Cond.methodLink RX0 3 objectInit ∈ wsL_law := in_r2 _ (List.mem_of_getElem? (i := 20) rfl)
theorem wd_fk_X0_9 : Cond.fieldLink RX0 9 "SafeParts$Channels" "from" "[I" ∈ wsL_law := in_r2 _ (List.mem_of_getElem? (i := 21) rfl)
theorem wd_fk_X0_15 : Cond.fieldLink RX0 15 "SafeParts$Channels" "to" "[I" ∈ wsL_law := in_r2 _ (List.mem_of_getElem? (i := 22) rfl)
theorem wd_fk_X0_18 : Cond.fieldLink RX0 18 "SafeParts$Channels" "promise" "[I" ∈ wsL_law := in_r2 _ (List.mem_of_getElem? (i := 23) rfl)
theorem wd_fk_X0_21 : Cond.fieldLink RX0 21 "SafeParts$Channels" "delay" "[I" ∈ wsL_law := in_r3 _ (List.mem_of_getElem? (i := 0) rfl)
theorem wd_fk_X0_24 : Cond.fieldLink RX0 24 "SafeParts$Channels" "clock" "[I" ∈ wsL_law := in_r3 _ (List.mem_of_getElem? (i := 1) rfl)
theorem wd_fk_X0_27 : Cond.fieldLink RX0 27 "SafeParts$Channels" "letters" "[I" ∈ wsL_law := in_r3 _ (List.mem_of_getElem? (i := 2) rfl)
theorem wd_fk_X0_30 : Cond.fieldLink RX0 30 "SafeParts$Channels" "empties" "[I" ∈ wsL_law := in_r3 _ (List.mem_of_getElem? (i := 3) rfl)
theorem wd_im_X2_init : Cond.instanceMethod yX2_init ∈ wsL_law := in_r3 _ (List.mem_of_getElem? (i := 4) rfl)
theorem wd_co_X2_init : Cond.code yX2_init cX2_init 1 none ∈ wsL_law := in_r3 _ (List.mem_of_getElem? (i := 5) rfl)
theorem wd_ml_X2_3 : Cond.methodLink RX2 3 objectInit ∈ wsL_law := in_r3 _ (List.mem_of_getElem? (i := 6) rfl)
theorem wd_fk_X2_9 : Cond.fieldLink RX2 9 "SafeParts$Waiting" "time" "[I" ∈ wsL_law := in_r3 _ (List.mem_of_getElem? (i := 7) rfl)
theorem wd_fk_X2_15 : Cond.fieldLink RX2 15 "SafeParts$Waiting" "value" "[I" ∈ wsL_law := in_r3 _ (List.mem_of_getElem? (i := 8) rfl)
theorem wd_fk_X2_18 : Cond.fieldLink RX2 18 "SafeParts$Waiting" "way" "[I" ∈ wsL_law := in_r3 _ (List.mem_of_getElem? (i := 9) rfl)
theorem wd_im_X1_init : Cond.instanceMethod yX1_init ∈ wsL_law := in_r3 _ (List.mem_of_getElem? (i := 10) rfl)
theorem wd_co_X1_init : Cond.code yX1_init cX1_init 1 none ∈ wsL_law := in_r3 _ (List.mem_of_getElem? (i := 11) rfl)
theorem wd_ml_X1_3 : Cond.methodLink RX1 3 objectInit ∈ wsL_law := in_r3 _ (List.mem_of_getElem? (i := 12) rfl)
theorem wd_fk_X1_9 : Cond.fieldLink RX1 9 "SafeParts$Log" "part" "[I" ∈ wsL_law := in_r3 _ (List.mem_of_getElem? (i := 13) rfl)
theorem wd_fk_X1_15 : Cond.fieldLink RX1 15 "SafeParts$Log" "time" "[I" ∈ wsL_law := in_r3 _ (List.mem_of_getElem? (i := 14) rfl)
theorem wd_fk_X1_18 : Cond.fieldLink RX1 18 "SafeParts$Log" "value" "[I" ∈ wsL_law := in_r3 _ (List.mem_of_getElem? (i := 15) rfl)
theorem wd_fk_X1_21 : Cond.fieldLink RX1 21 "SafeParts$Log" "round" "[I" ∈ wsL_law := in_r3 _ (List.mem_of_getElem? (i := 16) rfl)
theorem wd_ml_L_12 : Cond.methodLink RL 12 yX5_init ∈ wsL_law := in_r3 _ (List.mem_of_getElem? (i := 17) rfl)
theorem wd_im_X5_init : Cond.instanceMethod yX5_init ∈ wsL_law := in_r3 _ (List.mem_of_getElem? (i := 18) rfl)
theorem wd_co_X5_init : Cond.code yX5_init cX5_init 1 none ∈ wsL_law := in_r3 _ (List.mem_of_getElem? (i := 19) rfl)
theorem wd_ml_X5_1 : Cond.methodLink RX5 1 objectInit ∈ wsL_law := in_r3 _ (List.mem_of_getElem? (i := 20) rfl)
theorem wd_fk_X5_7 : Cond.fieldLink RX5 7 "SafePartsModel" "w" "[I" ∈ wsL_law := in_r3 _ (List.mem_of_getElem? (i := 21) rfl)
theorem wd_fk_X5_13 : Cond.fieldLink RX5 13 "SafePartsModel" "isKept" "[Z" ∈ wsL_law := in_r3 _ (List.mem_of_getElem? (i := 22) rfl)
theorem wd_fk_X5_17 : Cond.fieldLink RX5 17 "SafePartsModel" "records" "[I" ∈ wsL_law := in_r3 _ (List.mem_of_getElem? (i := 23) rfl)
theorem wd_fk_X5_20 : Cond.fieldLink RX5 20 "SafePartsModel" "far" "[I" ∈ wsL_law := in_r4 _ (List.mem_of_getElem? (i := 0) rfl)
theorem wd_ml_L_13 : Cond.methodLink RL 13 yX4_parts ∈ wsL_law := in_r4 _ (List.mem_of_getElem? (i := 1) rfl)
theorem wd_im_X4_parts : Cond.instanceMethod yX4_parts ∈ wsL_law := in_r4 _ (List.mem_of_getElem? (i := 2) rfl)
theorem wd_se_X4_X4_parts : Cond.selects RX4 yX4_parts yX4_parts ∈ wsL_law := in_r4 _ (List.mem_of_getElem? (i := 3) rfl)
theorem wd_co_X4_parts : Cond.code yX4_parts cX4_parts 4 (some .int) ∈ wsL_law := in_r4 _ (List.mem_of_getElem? (i := 4) rfl)
theorem wd_ct_X4_42 : Cond.constant RX4 42 (-1000000002) ∈ wsL_law := in_r4 _ (List.mem_of_getElem? (i := 5) rfl)
theorem wd_fk_X4_43 : Cond.fieldLink RX4 43 "SafeParts$World" "workedOn" "I" ∈ wsL_law := in_r4 _ (List.mem_of_getElem? (i := 6) rfl)
theorem wd_ml_X4_38 : Cond.methodLink RX4 38 yX4_isOutside ∈ wsL_law := in_r4 _ (List.mem_of_getElem? (i := 7) rfl)
theorem wd_st_X4_isOutside : Cond.static yX4_isOutside ∈ wsL_law := in_r4 _ (List.mem_of_getElem? (i := 8) rfl)
theorem wd_co_X4_isOutside : Cond.code yX4_isOutside cX4_isOutside 3 (some .boolean) ∈ wsL_law := in_r4 _ (List.mem_of_getElem? (i := 9) rfl)
theorem wd_ml_X4_47 : Cond.methodLink RX4 47 yX3_beginAnew ∈ wsL_law := in_r4 _ (List.mem_of_getElem? (i := 10) rfl)
theorem wd_im_X3_beginAnew : Cond.instanceMethod yX3_beginAnew ∈ wsL_law := in_r4 _ (List.mem_of_getElem? (i := 11) rfl)
theorem wd_se_X3_X3_beginAnew : Cond.selects RX3 yX3_beginAnew yX3_beginAnew ∈ wsL_law := in_r4 _ (List.mem_of_getElem? (i := 12) rfl)
theorem wd_co_X3_beginAnew : Cond.code yX3_beginAnew cX3_beginAnew 3 none ∈ wsL_law := in_r4 _ (List.mem_of_getElem? (i := 13) rfl)
theorem wd_fk_X3_39 : Cond.fieldLink RX3 39 "SafeParts$Channels" "size" "I" ∈ wsL_law := in_r4 _ (List.mem_of_getElem? (i := 14) rfl)
theorem wd_fk_X3_42 : Cond.fieldLink RX3 42 "SafeParts$Waiting" "size" "I" ∈ wsL_law := in_r4 _ (List.mem_of_getElem? (i := 15) rfl)
theorem wd_fk_X3_43 : Cond.fieldLink RX3 43 "SafeParts$World" "partCount" "I" ∈ wsL_law := in_r4 _ (List.mem_of_getElem? (i := 16) rfl)
theorem wd_fk_X3_46 : Cond.fieldLink RX3 46 "SafeParts$World" "workedOn" "I" ∈ wsL_law := in_r4 _ (List.mem_of_getElem? (i := 17) rfl)
theorem wd_fk_X3_49 : Cond.fieldLink RX3 49 "SafeParts$World" "emptyLetters" "I" ∈ wsL_law := in_r4 _ (List.mem_of_getElem? (i := 18) rfl)
theorem wd_fk_X3_52 : Cond.fieldLink RX3 52 "SafeParts$World" "rounds" "I" ∈ wsL_law := in_r4 _ (List.mem_of_getElem? (i := 19) rfl)
theorem wd_fk_X3_55 : Cond.fieldLink RX3 55 "SafeParts$World" "timesLetGo" "I" ∈ wsL_law := in_r4 _ (List.mem_of_getElem? (i := 20) rfl)
theorem wd_fk_X3_58 : Cond.fieldLink RX3 58 "SafeParts$World" "toldByHand" "I" ∈ wsL_law := in_r4 _ (List.mem_of_getElem? (i := 21) rfl)
theorem wd_ml_X4_51 : Cond.methodLink RX4 51 yX1_clear ∈ wsL_law := in_r4 _ (List.mem_of_getElem? (i := 22) rfl)
theorem wd_im_X1_clear : Cond.instanceMethod yX1_clear ∈ wsL_law := in_r4 _ (List.mem_of_getElem? (i := 23) rfl)
theorem wd_se_X1_X1_clear : Cond.selects RX1 yX1_clear yX1_clear ∈ wsL_law := in_r5 _ (List.mem_of_getElem? (i := 0) rfl)
theorem wd_co_X1_clear : Cond.code yX1_clear cX1_clear 1 none ∈ wsL_law := in_r5 _ (List.mem_of_getElem? (i := 1) rfl)
theorem wd_fk_X1_24 : Cond.fieldLink RX1 24 "SafeParts$Log" "size" "I" ∈ wsL_law := in_r5 _ (List.mem_of_getElem? (i := 2) rfl)
theorem wd_ml_L_17 : Cond.methodLink RL 17 yX5_parts ∈ wsL_law := in_r5 _ (List.mem_of_getElem? (i := 3) rfl)
theorem wd_im_X5_parts : Cond.instanceMethod yX5_parts ∈ wsL_law := in_r5 _ (List.mem_of_getElem? (i := 4) rfl)
theorem wd_se_X5_X5_parts : Cond.selects RX5 yX5_parts yX5_parts ∈ wsL_law := in_r5 _ (List.mem_of_getElem? (i := 5) rfl)
theorem wd_co_X5_parts : Cond.code yX5_parts cX5_parts 5 (some .int) ∈ wsL_law := in_r5 _ (List.mem_of_getElem? (i := 6) rfl)
theorem wd_cl_X5_27 : Cond.constantLong RX5 27 (6) ∈ wsL_law := in_r5 _ (List.mem_of_getElem? (i := 7) rfl)
theorem wd_ct_X5_29 : Cond.constant RX5 29 (-1000000002) ∈ wsL_law := in_r5 _ (List.mem_of_getElem? (i := 8) rfl)
theorem wd_fk_X5_30 : Cond.fieldLink RX5 30 "SafePartsModel" "entries" "I" ∈ wsL_law := in_r5 _ (List.mem_of_getElem? (i := 9) rfl)
theorem wd_ml_X5_23 : Cond.methodLink RX5 23 yX5_in ∈ wsL_law := in_r5 _ (List.mem_of_getElem? (i := 10) rfl)
theorem wd_st_X5_in : Cond.static yX5_in ∈ wsL_law := in_r5 _ (List.mem_of_getElem? (i := 11) rfl)
theorem wd_co_X5_in : Cond.code yX5_in cX5_in 6 (some .boolean) ∈ wsL_law := in_r5 _ (List.mem_of_getElem? (i := 12) rfl)
theorem wd_ml_L_18 : Cond.methodLink RL 18 yX4_channel ∈ wsL_law := in_r5 _ (List.mem_of_getElem? (i := 13) rfl)
theorem wd_im_X4_channel : Cond.instanceMethod yX4_channel ∈ wsL_law := in_r5 _ (List.mem_of_getElem? (i := 14) rfl)
theorem wd_se_X4_X4_channel : Cond.selects RX4 yX4_channel yX4_channel ∈ wsL_law := in_r5 _ (List.mem_of_getElem? (i := 15) rfl)
theorem wd_co_X4_channel : Cond.code yX4_channel cX4_channel 5 (some .int) ∈ wsL_law := in_r5 _ (List.mem_of_getElem? (i := 16) rfl)
theorem wd_ct_X4_58 : Cond.constant RX4 58 (-1000000001) ∈ wsL_law := in_r5 _ (List.mem_of_getElem? (i := 17) rfl)
theorem wd_fk_X4_59 : Cond.fieldLink RX4 59 "SafeParts$World" "channels" "LSafeParts$Channels;" ∈ wsL_law := in_r5 _ (List.mem_of_getElem? (i := 18) rfl)
theorem wd_ct_X4_73 : Cond.constant RX4 73 (-1000000003) ∈ wsL_law := in_r5 _ (List.mem_of_getElem? (i := 19) rfl)
theorem wd_fk_X4_74 : Cond.fieldLink RX4 74 "SafeParts$Channels" "size" "I" ∈ wsL_law := in_r5 _ (List.mem_of_getElem? (i := 20) rfl)
theorem wd_ct_X4_77 : Cond.constant RX4 77 (-1000000004) ∈ wsL_law := in_r5 _ (List.mem_of_getElem? (i := 21) rfl)
theorem wd_ml_X4_54 : Cond.methodLink RX4 54 yX4_areNotTwoParts ∈ wsL_law := in_r5 _ (List.mem_of_getElem? (i := 22) rfl)
theorem wd_im_X4_areNotTwoParts : Cond.instanceMethod yX4_areNotTwoParts ∈ wsL_law := in_r5 _ (List.mem_of_getElem? (i := 23) rfl)
theorem wd_se_X4_X4_areNotTwoParts : Cond.selects RX4 yX4_areNotTwoParts yX4_areNotTwoParts ∈ wsL_law := in_r6 _ (List.mem_of_getElem? (i := 0) rfl)
theorem wd_co_X4_areNotTwoParts : Cond.code yX4_areNotTwoParts cX4_areNotTwoParts 3 (some .boolean) ∈ wsL_law := in_r6 _ (List.mem_of_getElem? (i := 1) rfl)
theorem wd_ml_X4_143 : Cond.methodLink RX4 143 yX4_isNoPart ∈ wsL_law := in_r6 _ (List.mem_of_getElem? (i := 2) rfl)
theorem wd_im_X4_isNoPart : Cond.instanceMethod yX4_isNoPart ∈ wsL_law := in_r6 _ (List.mem_of_getElem? (i := 3) rfl)
theorem wd_se_X4_X4_isNoPart : Cond.selects RX4 yX4_isNoPart yX4_isNoPart ∈ wsL_law := in_r6 _ (List.mem_of_getElem? (i := 4) rfl)
theorem wd_co_X4_isNoPart : Cond.code yX4_isNoPart cX4_isNoPart 2 (some .boolean) ∈ wsL_law := in_r6 _ (List.mem_of_getElem? (i := 5) rfl)
theorem wd_fk_X4_93 : Cond.fieldLink RX4 93 "SafeParts$World" "partCount" "I" ∈ wsL_law := in_r6 _ (List.mem_of_getElem? (i := 6) rfl)
theorem wd_ml_X4_63 : Cond.methodLink RX4 63 yX0_find ∈ wsL_law := in_r6 _ (List.mem_of_getElem? (i := 7) rfl)
theorem wd_im_X0_find : Cond.instanceMethod yX0_find ∈ wsL_law := in_r6 _ (List.mem_of_getElem? (i := 8) rfl)
theorem wd_se_X0_X0_find : Cond.selects RX0 yX0_find yX0_find ∈ wsL_law := in_r6 _ (List.mem_of_getElem? (i := 9) rfl)
theorem wd_co_X0_find : Cond.code yX0_find cX0_find 4 (some .int) ∈ wsL_law := in_r6 _ (List.mem_of_getElem? (i := 10) rfl)
theorem wd_fk_X0_33 : Cond.fieldLink RX0 33 "SafeParts$Channels" "size" "I" ∈ wsL_law := in_r6 _ (List.mem_of_getElem? (i := 11) rfl)
theorem wd_ml_X4_69 : Cond.methodLink RX4 69 yX3_roundsAndLetGo ∈ wsL_law := in_r6 _ (List.mem_of_getElem? (i := 12) rfl)
theorem wd_im_X3_roundsAndLetGo : Cond.instanceMethod yX3_roundsAndLetGo ∈ wsL_law := in_r6 _ (List.mem_of_getElem? (i := 13) rfl)
theorem wd_se_X3_X3_roundsAndLetGo : Cond.selects RX3 yX3_roundsAndLetGo yX3_roundsAndLetGo ∈ wsL_law := in_r6 _ (List.mem_of_getElem? (i := 14) rfl)
theorem wd_co_X3_roundsAndLetGo : Cond.code yX3_roundsAndLetGo cX3_roundsAndLetGo 1 (some .int) ∈ wsL_law := in_r6 _ (List.mem_of_getElem? (i := 15) rfl)
theorem wd_ml_X4_78 : Cond.methodLink RX4 78 yX0_add ∈ wsL_law := in_r6 _ (List.mem_of_getElem? (i := 16) rfl)
theorem wd_im_X0_add : Cond.instanceMethod yX0_add ∈ wsL_law := in_r6 _ (List.mem_of_getElem? (i := 17) rfl)
theorem wd_se_X0_X0_add : Cond.selects RX0 yX0_add yX0_add ∈ wsL_law := in_r6 _ (List.mem_of_getElem? (i := 18) rfl)
theorem wd_co_X0_add : Cond.code yX0_add cX0_add 6 (some .int) ∈ wsL_law := in_r6 _ (List.mem_of_getElem? (i := 19) rfl)
theorem wd_ml_L_22 : Cond.methodLink RL 22 yX5_channel ∈ wsL_law := in_r6 _ (List.mem_of_getElem? (i := 20) rfl)
theorem wd_im_X5_channel : Cond.instanceMethod yX5_channel ∈ wsL_law := in_r6 _ (List.mem_of_getElem? (i := 21) rfl)
theorem wd_se_X5_X5_channel : Cond.selects RX5 yX5_channel yX5_channel ∈ wsL_law := in_r6 _ (List.mem_of_getElem? (i := 22) rfl)
theorem wd_co_X5_channel : Cond.code yX5_channel cX5_channel 6 (some .int) ∈ wsL_law := in_r6 _ (List.mem_of_getElem? (i := 23) rfl)
theorem wd_ct_X5_42 : Cond.constant RX5 42 (-1000000001) ∈ wsL_law := in_r7 _ (List.mem_of_getElem? (i := 0) rfl)
theorem wd_cl_X5_43 : Cond.constantLong RX5 43 (99) ∈ wsL_law := in_r7 _ (List.mem_of_getElem? (i := 1) rfl)
theorem wd_ct_X5_48 : Cond.constant RX5 48 (-1000000003) ∈ wsL_law := in_r7 _ (List.mem_of_getElem? (i := 2) rfl)
theorem wd_ct_X5_49 : Cond.constant RX5 49 (-1000000004) ∈ wsL_law := in_r7 _ (List.mem_of_getElem? (i := 3) rfl)
theorem wd_ml_X5_38 : Cond.methodLink RX5 38 yX5_isPart ∈ wsL_law := in_r7 _ (List.mem_of_getElem? (i := 4) rfl)
theorem wd_im_X5_isPart : Cond.instanceMethod yX5_isPart ∈ wsL_law := in_r7 _ (List.mem_of_getElem? (i := 5) rfl)
theorem wd_se_X5_X5_isPart : Cond.selects RX5 yX5_isPart yX5_isPart ∈ wsL_law := in_r7 _ (List.mem_of_getElem? (i := 6) rfl)
theorem wd_co_X5_isPart : Cond.code yX5_isPart cX5_isPart 2 (some .boolean) ∈ wsL_law := in_r7 _ (List.mem_of_getElem? (i := 7) rfl)
theorem wd_ml_X5_45 : Cond.methodLink RX5 45 yX5_wayOf ∈ wsL_law := in_r7 _ (List.mem_of_getElem? (i := 8) rfl)
theorem wd_im_X5_wayOf : Cond.instanceMethod yX5_wayOf ∈ wsL_law := in_r7 _ (List.mem_of_getElem? (i := 9) rfl)
theorem wd_se_X5_X5_wayOf : Cond.selects RX5 yX5_wayOf yX5_wayOf ∈ wsL_law := in_r7 _ (List.mem_of_getElem? (i := 10) rfl)
theorem wd_co_X5_wayOf : Cond.code yX5_wayOf cX5_wayOf 4 (some .int) ∈ wsL_law := in_r7 _ (List.mem_of_getElem? (i := 11) rfl)
theorem wd_ml_X5_34 : Cond.methodLink RX5 34 yX5_at ∈ wsL_law := in_r7 _ (List.mem_of_getElem? (i := 12) rfl)
theorem wd_st_X5_at : Cond.static yX5_at ∈ wsL_law := in_r7 _ (List.mem_of_getElem? (i := 13) rfl)
theorem wd_co_X5_at : Cond.code yX5_at cX5_at 2 (some .int) ∈ wsL_law := in_r7 _ (List.mem_of_getElem? (i := 14) rfl)
theorem wd_ml_L_23 : Cond.methodLink RL 23 yX4_event ∈ wsL_law := in_r7 _ (List.mem_of_getElem? (i := 15) rfl)
theorem wd_im_X4_event : Cond.instanceMethod yX4_event ∈ wsL_law := in_r7 _ (List.mem_of_getElem? (i := 16) rfl)
theorem wd_se_X4_X4_event : Cond.selects RX4 yX4_event yX4_event ∈ wsL_law := in_r7 _ (List.mem_of_getElem? (i := 17) rfl)
theorem wd_co_X4_event : Cond.code yX4_event cX4_event 5 (some .int) ∈ wsL_law := in_r7 _ (List.mem_of_getElem? (i := 18) rfl)
theorem wd_ml_X4_82 : Cond.methodLink RX4 82 yX4_refusalOfEvent ∈ wsL_law := in_r7 _ (List.mem_of_getElem? (i := 19) rfl)
theorem wd_im_X4_refusalOfEvent : Cond.instanceMethod yX4_refusalOfEvent ∈ wsL_law := in_r7 _ (List.mem_of_getElem? (i := 20) rfl)
theorem wd_se_X4_X4_refusalOfEvent : Cond.selects RX4 yX4_refusalOfEvent yX4_refusalOfEvent ∈ wsL_law := in_r7 _ (List.mem_of_getElem? (i := 21) rfl)
theorem wd_co_X4_refusalOfEvent : Cond.code yX4_refusalOfEvent cX4_refusalOfEvent 4 (some .int) ∈ wsL_law := in_r7 _ (List.mem_of_getElem? (i := 22) rfl)
theorem wd_fk_X4_140 : Cond.fieldLink RX4 140 "SafeParts$World" "toldByHand" "I" ∈ wsL_law := in_r7 _ (List.mem_of_getElem? (i := 23) rfl)
theorem wd_ml_X4_231 : Cond.methodLink RX4 231 yX3_hasWorkedAtOrBehind ∈ wsL_law := in_r8 _ (List.mem_of_getElem? (i := 0) rfl)
theorem wd_im_X3_hasWorkedAtOrBehind : Cond.instanceMethod yX3_hasWorkedAtOrBehind ∈ wsL_law := in_r8 _ (List.mem_of_getElem? (i := 1) rfl)
theorem wd_se_X3_X3_hasWorkedAtOrBehind : Cond.selects RX3 yX3_hasWorkedAtOrBehind yX3_hasWorkedAtOrBehind ∈ wsL_law := in_r8 _ (List.mem_of_getElem? (i := 2) rfl)
theorem wd_co_X3_hasWorkedAtOrBehind : Cond.code yX3_hasWorkedAtOrBehind cX3_hasWorkedAtOrBehind 3 (some .boolean) ∈ wsL_law := in_r8 _ (List.mem_of_getElem? (i := 3) rfl)
theorem wd_ml_X4_234 : Cond.methodLink RX4 234 yX0_promiseMoreThan ∈ wsL_law := in_r8 _ (List.mem_of_getElem? (i := 4) rfl)
theorem wd_im_X0_promiseMoreThan : Cond.instanceMethod yX0_promiseMoreThan ∈ wsL_law := in_r8 _ (List.mem_of_getElem? (i := 5) rfl)
theorem wd_se_X0_X0_promiseMoreThan : Cond.selects RX0 yX0_promiseMoreThan yX0_promiseMoreThan ∈ wsL_law := in_r8 _ (List.mem_of_getElem? (i := 6) rfl)
theorem wd_co_X0_promiseMoreThan : Cond.code yX0_promiseMoreThan cX0_promiseMoreThan 4 (some .boolean) ∈ wsL_law := in_r8 _ (List.mem_of_getElem? (i := 7) rfl)
theorem wd_ml_X4_86 : Cond.methodLink RX4 86 yX3_tellByHand ∈ wsL_law := in_r8 _ (List.mem_of_getElem? (i := 8) rfl)
theorem wd_im_X3_tellByHand : Cond.instanceMethod yX3_tellByHand ∈ wsL_law := in_r8 _ (List.mem_of_getElem? (i := 9) rfl)
theorem wd_se_X3_X3_tellByHand : Cond.selects RX3 yX3_tellByHand yX3_tellByHand ∈ wsL_law := in_r8 _ (List.mem_of_getElem? (i := 10) rfl)
theorem wd_co_X3_tellByHand : Cond.code yX3_tellByHand cX3_tellByHand 4 (some .int) ∈ wsL_law := in_r8 _ (List.mem_of_getElem? (i := 11) rfl)
theorem wd_ml_X3_90 : Cond.methodLink RX3 90 yX2_add ∈ wsL_law := in_r8 _ (List.mem_of_getElem? (i := 12) rfl)
theorem wd_im_X2_add : Cond.instanceMethod yX2_add ∈ wsL_law := in_r8 _ (List.mem_of_getElem? (i := 13) rfl)
theorem wd_se_X2_X2_add : Cond.selects RX2 yX2_add yX2_add ∈ wsL_law := in_r8 _ (List.mem_of_getElem? (i := 14) rfl)
theorem wd_co_X2_add : Cond.code yX2_add cX2_add 5 none ∈ wsL_law := in_r8 _ (List.mem_of_getElem? (i := 15) rfl)
theorem wd_fk_X2_21 : Cond.fieldLink RX2 21 "SafeParts$Waiting" "size" "I" ∈ wsL_law := in_r8 _ (List.mem_of_getElem? (i := 16) rfl)
theorem wd_ml_X2_26 : Cond.methodLink RX2 26 yX2_isBehind ∈ wsL_law := in_r8 _ (List.mem_of_getElem? (i := 17) rfl)
theorem wd_im_X2_isBehind : Cond.instanceMethod yX2_isBehind ∈ wsL_law := in_r8 _ (List.mem_of_getElem? (i := 18) rfl)
theorem wd_se_X2_X2_isBehind : Cond.selects RX2 yX2_isBehind yX2_isBehind ∈ wsL_law := in_r8 _ (List.mem_of_getElem? (i := 19) rfl)
theorem wd_co_X2_isBehind : Cond.code yX2_isBehind cX2_isBehind 4 (some .boolean) ∈ wsL_law := in_r8 _ (List.mem_of_getElem? (i := 20) rfl)
theorem wd_ml_L_27 : Cond.methodLink RL 27 yX5_event ∈ wsL_law := in_r8 _ (List.mem_of_getElem? (i := 21) rfl)
theorem wd_im_X5_event : Cond.instanceMethod yX5_event ∈ wsL_law := in_r8 _ (List.mem_of_getElem? (i := 22) rfl)
theorem wd_se_X5_X5_event : Cond.selects RX5 yX5_event yX5_event ∈ wsL_law := in_r8 _ (List.mem_of_getElem? (i := 23) rfl)
theorem wd_co_X5_event : Cond.code yX5_event cX5_event 4 (some .int) ∈ wsL_law := in_r9 _ (List.mem_of_getElem? (i := 0) rfl)
theorem wd_cl_X5_50 : Cond.constantLong RX5 50 (9999) ∈ wsL_law := in_r9 _ (List.mem_of_getElem? (i := 1) rfl)
theorem wd_ml_X5_52 : Cond.methodLink RX5 52 yX5_isPromised ∈ wsL_law := in_r9 _ (List.mem_of_getElem? (i := 2) rfl)
theorem wd_im_X5_isPromised : Cond.instanceMethod yX5_isPromised ∈ wsL_law := in_r9 _ (List.mem_of_getElem? (i := 3) rfl)
theorem wd_se_X5_X5_isPromised : Cond.selects RX5 yX5_isPromised yX5_isPromised ∈ wsL_law := in_r9 _ (List.mem_of_getElem? (i := 4) rfl)
theorem wd_co_X5_isPromised : Cond.code yX5_isPromised cX5_isPromised 5 (some .boolean) ∈ wsL_law := in_r9 _ (List.mem_of_getElem? (i := 5) rfl)
theorem wd_ml_X5_56 : Cond.methodLink RX5 56 yX5_comes ∈ wsL_law := in_r9 _ (List.mem_of_getElem? (i := 6) rfl)
theorem wd_im_X5_comes : Cond.instanceMethod yX5_comes ∈ wsL_law := in_r9 _ (List.mem_of_getElem? (i := 7) rfl)
theorem wd_se_X5_X5_comes : Cond.selects RX5 yX5_comes yX5_comes ∈ wsL_law := in_r9 _ (List.mem_of_getElem? (i := 8) rfl)
theorem wd_co_X5_comes : Cond.code yX5_comes cX5_comes 7 none ∈ wsL_law := in_r9 _ (List.mem_of_getElem? (i := 9) rfl)
theorem wd_ml_X5_60 : Cond.methodLink RX5 60 yX5_waitFor ∈ wsL_law := in_r9 _ (List.mem_of_getElem? (i := 10) rfl)
theorem wd_im_X5_waitFor : Cond.instanceMethod yX5_waitFor ∈ wsL_law := in_r9 _ (List.mem_of_getElem? (i := 11) rfl)
theorem wd_se_X5_X5_waitFor : Cond.selects RX5 yX5_waitFor yX5_waitFor ∈ wsL_law := in_r9 _ (List.mem_of_getElem? (i := 12) rfl)
theorem wd_co_X5_waitFor : Cond.code yX5_waitFor cX5_waitFor 5 (some .int) ∈ wsL_law := in_r9 _ (List.mem_of_getElem? (i := 13) rfl)
theorem wd_ml_L_28 : Cond.methodLink RL 28 yX4_form ∈ wsL_law := in_r9 _ (List.mem_of_getElem? (i := 14) rfl)
theorem wd_im_X4_form : Cond.instanceMethod yX4_form ∈ wsL_law := in_r9 _ (List.mem_of_getElem? (i := 15) rfl)
theorem wd_se_X4_X4_form : Cond.selects RX4 yX4_form yX4_form ∈ wsL_law := in_r9 _ (List.mem_of_getElem? (i := 16) rfl)
theorem wd_co_X4_form : Cond.code yX4_form cX4_form 3 (some .int) ∈ wsL_law := in_r9 _ (List.mem_of_getElem? (i := 17) rfl)
theorem wd_fk_X4_89 : Cond.fieldLink RX4 89 "SafeParts$World" "formNow" "I" ∈ wsL_law := in_r9 _ (List.mem_of_getElem? (i := 18) rfl)
theorem wd_ml_L_31 : Cond.methodLink RL 31 yX5_form ∈ wsL_law := in_r9 _ (List.mem_of_getElem? (i := 19) rfl)
theorem wd_im_X5_form : Cond.instanceMethod yX5_form ∈ wsL_law := in_r9 _ (List.mem_of_getElem? (i := 20) rfl)
theorem wd_se_X5_X5_form : Cond.selects RX5 yX5_form yX5_form ∈ wsL_law := in_r9 _ (List.mem_of_getElem? (i := 21) rfl)
theorem wd_co_X5_form : Cond.code yX5_form cX5_form 3 (some .int) ∈ wsL_law := in_r9 _ (List.mem_of_getElem? (i := 22) rfl)
theorem wd_cl_X5_63 : Cond.constantLong RX5 63 (2) ∈ wsL_law := in_r9 _ (List.mem_of_getElem? (i := 23) rfl)
theorem wd_ml_L_32 : Cond.methodLink RL 32 yX4_drift ∈ wsL_law := in_r10 _ (List.mem_of_getElem? (i := 0) rfl)
theorem wd_im_X4_drift : Cond.instanceMethod yX4_drift ∈ wsL_law := in_r10 _ (List.mem_of_getElem? (i := 1) rfl)
theorem wd_se_X4_X4_drift : Cond.selects RX4 yX4_drift yX4_drift ∈ wsL_law := in_r10 _ (List.mem_of_getElem? (i := 2) rfl)
theorem wd_co_X4_drift : Cond.code yX4_drift cX4_drift 11 (some .int) ∈ wsL_law := in_r10 _ (List.mem_of_getElem? (i := 3) rfl)
theorem wd_ct_X4_92 : Cond.constant RX4 92 (999999) ∈ wsL_law := in_r10 _ (List.mem_of_getElem? (i := 4) rfl)
theorem wd_fk_X4_100 : Cond.fieldLink RX4 100 "SafeParts$World" "now" "[I" ∈ wsL_law := in_r10 _ (List.mem_of_getElem? (i := 5) rfl)
theorem wd_cl_X4_103 : Cond.constantLong RX4 103 (50) ∈ wsL_law := in_r10 _ (List.mem_of_getElem? (i := 6) rfl)
theorem wd_cl_X4_105 : Cond.constantLong RX4 105 (20) ∈ wsL_law := in_r10 _ (List.mem_of_getElem? (i := 7) rfl)
theorem wd_ml_X4_96 : Cond.methodLink RX4 96 yX4_nextLot ∈ wsL_law := in_r10 _ (List.mem_of_getElem? (i := 8) rfl)
theorem wd_st_X4_nextLot : Cond.static yX4_nextLot ∈ wsL_law := in_r10 _ (List.mem_of_getElem? (i := 9) rfl)
theorem wd_co_X4_nextLot : Cond.code yX4_nextLot cX4_nextLot 2 (some .long) ∈ wsL_law := in_r10 _ (List.mem_of_getElem? (i := 10) rfl)
theorem wd_cl_X4_237 : Cond.constantLong RX4 237 (16807) ∈ wsL_law := in_r10 _ (List.mem_of_getElem? (i := 11) rfl)
theorem wd_cl_X4_239 : Cond.constantLong RX4 239 (2147483647) ∈ wsL_law := in_r10 _ (List.mem_of_getElem? (i := 12) rfl)
theorem wd_ml_L_36 : Cond.methodLink RL 36 yX5_drift ∈ wsL_law := in_r10 _ (List.mem_of_getElem? (i := 13) rfl)
theorem wd_im_X5_drift : Cond.instanceMethod yX5_drift ∈ wsL_law := in_r10 _ (List.mem_of_getElem? (i := 14) rfl)
theorem wd_se_X5_X5_drift : Cond.selects RX5 yX5_drift yX5_drift ∈ wsL_law := in_r10 _ (List.mem_of_getElem? (i := 15) rfl)
theorem wd_co_X5_drift : Cond.code yX5_drift cX5_drift 8 (some .int) ∈ wsL_law := in_r10 _ (List.mem_of_getElem? (i := 16) rfl)
theorem wd_cl_X5_73 : Cond.constantLong RX5 73 (20) ∈ wsL_law := in_r10 _ (List.mem_of_getElem? (i := 17) rfl)
theorem wd_cl_X5_75 : Cond.constantLong RX5 75 (999999) ∈ wsL_law := in_r10 _ (List.mem_of_getElem? (i := 18) rfl)
theorem wd_fk_X5_65 : Cond.fieldLink RX5 65 "SafePartsModel" "lot" "J" ∈ wsL_law := in_r10 _ (List.mem_of_getElem? (i := 19) rfl)
theorem wd_ml_X5_77 : Cond.methodLink RX5 77 yX5_draw ∈ wsL_law := in_r10 _ (List.mem_of_getElem? (i := 20) rfl)
theorem wd_im_X5_draw : Cond.instanceMethod yX5_draw ∈ wsL_law := in_r10 _ (List.mem_of_getElem? (i := 21) rfl)
theorem wd_se_X5_X5_draw : Cond.selects RX5 yX5_draw yX5_draw ∈ wsL_law := in_r10 _ (List.mem_of_getElem? (i := 22) rfl)
theorem wd_co_X5_draw : Cond.code yX5_draw cX5_draw 2 (some .int) ∈ wsL_law := in_r10 _ (List.mem_of_getElem? (i := 23) rfl)
theorem wd_cl_X5_69 : Cond.constantLong RX5 69 (16807) ∈ wsL_law := in_r11 _ (List.mem_of_getElem? (i := 0) rfl)
theorem wd_cl_X5_71 : Cond.constantLong RX5 71 (2147483647) ∈ wsL_law := in_r11 _ (List.mem_of_getElem? (i := 1) rfl)
theorem wd_ml_X5_81 : Cond.methodLink RX5 81 yX5_event ∈ wsL_law := in_r11 _ (List.mem_of_getElem? (i := 2) rfl)
theorem wd_ml_L_37 : Cond.methodLink RL 37 yX4_run ∈ wsL_law := in_r11 _ (List.mem_of_getElem? (i := 3) rfl)
theorem wd_im_X4_run : Cond.instanceMethod yX4_run ∈ wsL_law := in_r11 _ (List.mem_of_getElem? (i := 4) rfl)
theorem wd_se_X4_X4_run : Cond.selects RX4 yX4_run yX4_run ∈ wsL_law := in_r11 _ (List.mem_of_getElem? (i := 5) rfl)
theorem wd_co_X4_run : Cond.code yX4_run cX4_run 5 (some .int) ∈ wsL_law := in_r11 _ (List.mem_of_getElem? (i := 6) rfl)
theorem wd_ml_X4_107 : Cond.methodLink RX4 107 yX4_nothingIsRun ∈ wsL_law := in_r11 _ (List.mem_of_getElem? (i := 7) rfl)
theorem wd_im_X4_nothingIsRun : Cond.instanceMethod yX4_nothingIsRun ∈ wsL_law := in_r11 _ (List.mem_of_getElem? (i := 8) rfl)
theorem wd_se_X4_X4_nothingIsRun : Cond.selects RX4 yX4_nothingIsRun yX4_nothingIsRun ∈ wsL_law := in_r11 _ (List.mem_of_getElem? (i := 9) rfl)
theorem wd_co_X4_nothingIsRun : Cond.code yX4_nothingIsRun cX4_nothingIsRun 1 (some .boolean) ∈ wsL_law := in_r11 _ (List.mem_of_getElem? (i := 10) rfl)
theorem wd_ml_X4_136 : Cond.methodLink RX4 136 yX0_hasRingWithoutPromise ∈ wsL_law := in_r11 _ (List.mem_of_getElem? (i := 11) rfl)
theorem wd_im_X0_hasRingWithoutPromise : Cond.instanceMethod yX0_hasRingWithoutPromise ∈ wsL_law := in_r11 _ (List.mem_of_getElem? (i := 12) rfl)
theorem wd_se_X0_X0_hasRingWithoutPromise : Cond.selects RX0 yX0_hasRingWithoutPromise yX0_hasRingWithoutPromise ∈ wsL_law := in_r11 _ (List.mem_of_getElem? (i := 13) rfl)
theorem wd_co_X0_hasRingWithoutPromise : Cond.code yX0_hasRingWithoutPromise cX0_hasRingWithoutPromise 3 (some .boolean) ∈ wsL_law := in_r11 _ (List.mem_of_getElem? (i := 14) rfl)
theorem wd_ml_X0_49 : Cond.methodLink RX0 49 yX0_reachedWithoutPromise ∈ wsL_law := in_r11 _ (List.mem_of_getElem? (i := 15) rfl)
theorem wd_im_X0_reachedWithoutPromise : Cond.instanceMethod yX0_reachedWithoutPromise ∈ wsL_law := in_r11 _ (List.mem_of_getElem? (i := 16) rfl)
theorem wd_se_X0_X0_reachedWithoutPromise : Cond.selects RX0 yX0_reachedWithoutPromise yX0_reachedWithoutPromise ∈ wsL_law := in_r11 _ (List.mem_of_getElem? (i := 17) rfl)
theorem wd_co_X0_reachedWithoutPromise : Cond.code yX0_reachedWithoutPromise cX0_reachedWithoutPromise 7 (some .int) ∈ wsL_law := in_r11 _ (List.mem_of_getElem? (i := 18) rfl)
theorem wd_ml_X4_111 : Cond.methodLink RX4 111 yX3_eventsThatWait ∈ wsL_law := in_r11 _ (List.mem_of_getElem? (i := 19) rfl)
theorem wd_im_X3_eventsThatWait : Cond.instanceMethod yX3_eventsThatWait ∈ wsL_law := in_r11 _ (List.mem_of_getElem? (i := 20) rfl)
theorem wd_se_X3_X3_eventsThatWait : Cond.selects RX3 yX3_eventsThatWait yX3_eventsThatWait ∈ wsL_law := in_r11 _ (List.mem_of_getElem? (i := 21) rfl)
theorem wd_co_X3_eventsThatWait : Cond.code yX3_eventsThatWait cX3_eventsThatWait 3 (some .int) ∈ wsL_law := in_r11 _ (List.mem_of_getElem? (i := 22) rfl)
theorem wd_ml_X4_114 : Cond.methodLink RX4 114 yX4_isStillAfterRound ∈ wsL_law := in_r11 _ (List.mem_of_getElem? (i := 23) rfl)
theorem wd_im_X4_isStillAfterRound : Cond.instanceMethod yX4_isStillAfterRound ∈ wsL_law := in_r12 _ (List.mem_of_getElem? (i := 0) rfl)
theorem wd_se_X4_X4_isStillAfterRound : Cond.selects RX4 yX4_isStillAfterRound yX4_isStillAfterRound ∈ wsL_law := in_r12 _ (List.mem_of_getElem? (i := 1) rfl)
theorem wd_co_X4_isStillAfterRound : Cond.code yX4_isStillAfterRound cX4_isStillAfterRound 4 (some .boolean) ∈ wsL_law := in_r12 _ (List.mem_of_getElem? (i := 2) rfl)
theorem wd_fk_X4_123 : Cond.fieldLink RX4 123 "SafeParts$World" "emptyLetters" "I" ∈ wsL_law := in_r12 _ (List.mem_of_getElem? (i := 3) rfl)
theorem wd_fk_X4_126 : Cond.fieldLink RX4 126 "SafeParts$World" "rounds" "I" ∈ wsL_law := in_r12 _ (List.mem_of_getElem? (i := 4) rfl)
theorem wd_ml_X4_169 : Cond.methodLink RX4 169 yX3_mayWork ∈ wsL_law := in_r12 _ (List.mem_of_getElem? (i := 5) rfl)
theorem wd_im_X3_mayWork : Cond.instanceMethod yX3_mayWork ∈ wsL_law := in_r12 _ (List.mem_of_getElem? (i := 6) rfl)
theorem wd_se_X3_X3_mayWork : Cond.selects RX3 yX3_mayWork yX3_mayWork ∈ wsL_law := in_r12 _ (List.mem_of_getElem? (i := 7) rfl)
theorem wd_co_X3_mayWork : Cond.code yX3_mayWork cX3_mayWork 2 (some .boolean) ∈ wsL_law := in_r12 _ (List.mem_of_getElem? (i := 8) rfl)
theorem wd_ml_X3_68 : Cond.methodLink RX3 68 yX2_firstTime ∈ wsL_law := in_r12 _ (List.mem_of_getElem? (i := 9) rfl)
theorem wd_im_X2_firstTime : Cond.instanceMethod yX2_firstTime ∈ wsL_law := in_r12 _ (List.mem_of_getElem? (i := 10) rfl)
theorem wd_se_X2_X2_firstTime : Cond.selects RX2 yX2_firstTime yX2_firstTime ∈ wsL_law := in_r12 _ (List.mem_of_getElem? (i := 11) rfl)
theorem wd_co_X2_firstTime : Cond.code yX2_firstTime cX2_firstTime 1 (some .int) ∈ wsL_law := in_r12 _ (List.mem_of_getElem? (i := 12) rfl)
theorem wd_ct_X2_25 : Cond.constant RX2 25 (99999999) ∈ wsL_law := in_r12 _ (List.mem_of_getElem? (i := 13) rfl)
theorem wd_ml_X3_83 : Cond.methodLink RX3 83 yX3_safeOf ∈ wsL_law := in_r12 _ (List.mem_of_getElem? (i := 14) rfl)
theorem wd_im_X3_safeOf : Cond.instanceMethod yX3_safeOf ∈ wsL_law := in_r12 _ (List.mem_of_getElem? (i := 15) rfl)
theorem wd_se_X3_X3_safeOf : Cond.selects RX3 yX3_safeOf yX3_safeOf ∈ wsL_law := in_r12 _ (List.mem_of_getElem? (i := 16) rfl)
theorem wd_co_X3_safeOf : Cond.code yX3_safeOf cX3_safeOf 3 (some .int) ∈ wsL_law := in_r12 _ (List.mem_of_getElem? (i := 17) rfl)
theorem wd_ct_X3_79 : Cond.constant RX3 79 (99999999) ∈ wsL_law := in_r12 _ (List.mem_of_getElem? (i := 18) rfl)
theorem wd_fk_X3_80 : Cond.fieldLink RX3 80 "SafeParts$Channels" "clock" "[I" ∈ wsL_law := in_r12 _ (List.mem_of_getElem? (i := 19) rfl)
theorem wd_ml_X3_75 : Cond.methodLink RX3 75 yX0_ofLeastClockTo ∈ wsL_law := in_r12 _ (List.mem_of_getElem? (i := 20) rfl)
theorem wd_im_X0_ofLeastClockTo : Cond.instanceMethod yX0_ofLeastClockTo ∈ wsL_law := in_r12 _ (List.mem_of_getElem? (i := 21) rfl)
theorem wd_se_X0_X0_ofLeastClockTo : Cond.selects RX0 yX0_ofLeastClockTo yX0_ofLeastClockTo ∈ wsL_law := in_r12 _ (List.mem_of_getElem? (i := 22) rfl)
theorem wd_co_X0_ofLeastClockTo : Cond.code yX0_ofLeastClockTo cX0_ofLeastClockTo 4 (some .int) ∈ wsL_law := in_r12 _ (List.mem_of_getElem? (i := 23) rfl)
theorem wd_ml_X4_241 : Cond.methodLink RX4 241 yX4_workAndWriteDown ∈ wsL_law := in_r13 _ (List.mem_of_getElem? (i := 0) rfl)
theorem wd_im_X4_workAndWriteDown : Cond.instanceMethod yX4_workAndWriteDown ∈ wsL_law := in_r13 _ (List.mem_of_getElem? (i := 1) rfl)
theorem wd_se_X4_X4_workAndWriteDown : Cond.selects RX4 yX4_workAndWriteDown yX4_workAndWriteDown ∈ wsL_law := in_r13 _ (List.mem_of_getElem? (i := 2) rfl)
theorem wd_co_X4_workAndWriteDown : Cond.code yX4_workAndWriteDown cX4_workAndWriteDown 3 none ∈ wsL_law := in_r13 _ (List.mem_of_getElem? (i := 3) rfl)
theorem wd_fk_X4_156 : Cond.fieldLink RX4 156 "SafeParts$World" "waiting" "[LSafeParts$Waiting;" ∈ wsL_law := in_r13 _ (List.mem_of_getElem? (i := 4) rfl)
theorem wd_ml_X4_163 : Cond.methodLink RX4 163 yX2_firstTime ∈ wsL_law := in_r13 _ (List.mem_of_getElem? (i := 5) rfl)
theorem wd_ml_X4_166 : Cond.methodLink RX4 166 yX2_firstValue ∈ wsL_law := in_r13 _ (List.mem_of_getElem? (i := 6) rfl)
theorem wd_im_X2_firstValue : Cond.instanceMethod yX2_firstValue ∈ wsL_law := in_r13 _ (List.mem_of_getElem? (i := 7) rfl)
theorem wd_se_X2_X2_firstValue : Cond.selects RX2 yX2_firstValue yX2_firstValue ∈ wsL_law := in_r13 _ (List.mem_of_getElem? (i := 8) rfl)
theorem wd_co_X2_firstValue : Cond.code yX2_firstValue cX2_firstValue 1 (some .int) ∈ wsL_law := in_r13 _ (List.mem_of_getElem? (i := 9) rfl)
theorem wd_ml_X4_250 : Cond.methodLink RX4 250 yX1_add ∈ wsL_law := in_r13 _ (List.mem_of_getElem? (i := 10) rfl)
theorem wd_im_X1_add : Cond.instanceMethod yX1_add ∈ wsL_law := in_r13 _ (List.mem_of_getElem? (i := 11) rfl)
theorem wd_se_X1_X1_add : Cond.selects RX1 yX1_add yX1_add ∈ wsL_law := in_r13 _ (List.mem_of_getElem? (i := 12) rfl)
theorem wd_co_X1_add : Cond.code yX1_add cX1_add 5 none ∈ wsL_law := in_r13 _ (List.mem_of_getElem? (i := 13) rfl)
theorem wd_ml_X4_225 : Cond.methodLink RX4 225 yX3_workOnFirst ∈ wsL_law := in_r13 _ (List.mem_of_getElem? (i := 14) rfl)
theorem wd_im_X3_workOnFirst : Cond.instanceMethod yX3_workOnFirst ∈ wsL_law := in_r13 _ (List.mem_of_getElem? (i := 15) rfl)
theorem wd_se_X3_X3_workOnFirst : Cond.selects RX3 yX3_workOnFirst yX3_workOnFirst ∈ wsL_law := in_r13 _ (List.mem_of_getElem? (i := 16) rfl)
theorem wd_co_X3_workOnFirst : Cond.code yX3_workOnFirst cX3_workOnFirst 5 none ∈ wsL_law := in_r13 _ (List.mem_of_getElem? (i := 17) rfl)
theorem wd_ct_X3_100 : Cond.constant RX3 100 (1000003) ∈ wsL_law := in_r13 _ (List.mem_of_getElem? (i := 18) rfl)
theorem wd_ml_X3_94 : Cond.methodLink RX3 94 yX2_firstValue ∈ wsL_law := in_r13 _ (List.mem_of_getElem? (i := 19) rfl)
theorem wd_ml_X3_97 : Cond.methodLink RX3 97 yX2_removeFirst ∈ wsL_law := in_r13 _ (List.mem_of_getElem? (i := 20) rfl)
theorem wd_im_X2_removeFirst : Cond.instanceMethod yX2_removeFirst ∈ wsL_law := in_r13 _ (List.mem_of_getElem? (i := 21) rfl)
theorem wd_se_X2_X2_removeFirst : Cond.selects RX2 yX2_removeFirst yX2_removeFirst ∈ wsL_law := in_r13 _ (List.mem_of_getElem? (i := 22) rfl)
theorem wd_co_X2_removeFirst : Cond.code yX2_removeFirst cX2_removeFirst 1 none ∈ wsL_law := in_r13 _ (List.mem_of_getElem? (i := 23) rfl)
theorem wd_ml_X2_30 : Cond.methodLink RX2 30 arraycopyName ∈ wsL_law := in_r14 _ (List.mem_of_getElem? (i := 0) rfl)
theorem wd_na_arraycopyName : Cond.native arraycopyName ∈ wsL_law := in_r14 _ (List.mem_of_getElem? (i := 1) rfl)
theorem wd_st_arraycopyName : Cond.static arraycopyName ∈ wsL_law := in_r14 _ (List.mem_of_getElem? (i := 2) rfl)
theorem wd_ini_java_lang_System : Cond.initialized "java/lang/System" ∈ wsL_law := in_r14 _ (List.mem_of_getElem? (i := 3) rfl)
theorem wd_ml_X3_101 : Cond.methodLink RX3 101 yX3_sendLetter ∈ wsL_law := in_r14 _ (List.mem_of_getElem? (i := 4) rfl)
theorem wd_im_X3_sendLetter : Cond.instanceMethod yX3_sendLetter ∈ wsL_law := in_r14 _ (List.mem_of_getElem? (i := 5) rfl)
theorem wd_se_X3_X3_sendLetter : Cond.selects RX3 yX3_sendLetter yX3_sendLetter ∈ wsL_law := in_r14 _ (List.mem_of_getElem? (i := 6) rfl)
theorem wd_co_X3_sendLetter : Cond.code yX3_sendLetter cX3_sendLetter 7 none ∈ wsL_law := in_r14 _ (List.mem_of_getElem? (i := 7) rfl)
theorem wd_fk_X3_111 : Cond.fieldLink RX3 111 "SafeParts$Channels" "delay" "[I" ∈ wsL_law := in_r14 _ (List.mem_of_getElem? (i := 8) rfl)
theorem wd_fk_X3_114 : Cond.fieldLink RX3 114 "SafeParts$Channels" "to" "[I" ∈ wsL_law := in_r14 _ (List.mem_of_getElem? (i := 9) rfl)
theorem wd_fk_X3_117 : Cond.fieldLink RX3 117 "SafeParts$Channels" "letters" "[I" ∈ wsL_law := in_r14 _ (List.mem_of_getElem? (i := 10) rfl)
theorem wd_ml_X3_120 : Cond.methodLink RX3 120 Lib.Math.max.name ∈ wsL_law := in_r14 _ (List.mem_of_getElem? (i := 11) rfl)
theorem wd_st_Lib_Math_max_name : Cond.static Lib.Math.max.name ∈ wsL_law := in_r14 _ (List.mem_of_getElem? (i := 12) rfl)
theorem wd_ini_java_lang_Math : Cond.initialized "java/lang/Math" ∈ wsL_law := in_r14 _ (List.mem_of_getElem? (i := 13) rfl)
theorem wd_co_Lib_Math_max_name : Cond.code Lib.Math.max.name Lib.Math.max.code 2 (some .int) ∈ wsL_law := in_r14 _ (List.mem_of_getElem? (i := 14) rfl)
theorem wd_ml_X3_104 : Cond.methodLink RX3 104 yX0_countFrom ∈ wsL_law := in_r14 _ (List.mem_of_getElem? (i := 15) rfl)
theorem wd_im_X0_countFrom : Cond.instanceMethod yX0_countFrom ∈ wsL_law := in_r14 _ (List.mem_of_getElem? (i := 16) rfl)
theorem wd_se_X0_X0_countFrom : Cond.selects RX0 yX0_countFrom yX0_countFrom ∈ wsL_law := in_r14 _ (List.mem_of_getElem? (i := 17) rfl)
theorem wd_co_X0_countFrom : Cond.code yX0_countFrom cX0_countFrom 4 (some .int) ∈ wsL_law := in_r14 _ (List.mem_of_getElem? (i := 18) rfl)
theorem wd_ml_X3_107 : Cond.methodLink RX3 107 yX0_atPlaceFrom ∈ wsL_law := in_r14 _ (List.mem_of_getElem? (i := 19) rfl)
theorem wd_im_X0_atPlaceFrom : Cond.instanceMethod yX0_atPlaceFrom ∈ wsL_law := in_r14 _ (List.mem_of_getElem? (i := 20) rfl)
theorem wd_se_X0_X0_atPlaceFrom : Cond.selects RX0 yX0_atPlaceFrom yX0_atPlaceFrom ∈ wsL_law := in_r14 _ (List.mem_of_getElem? (i := 21) rfl)
theorem wd_co_X0_atPlaceFrom : Cond.code yX0_atPlaceFrom cX0_atPlaceFrom 5 (some .int) ∈ wsL_law := in_r14 _ (List.mem_of_getElem? (i := 22) rfl)
theorem wd_ml_X4_244 : Cond.methodLink RX4 244 yX3_sendEmptyLetters ∈ wsL_law := in_r14 _ (List.mem_of_getElem? (i := 23) rfl)
theorem wd_im_X3_sendEmptyLetters : Cond.instanceMethod yX3_sendEmptyLetters ∈ wsL_law := in_r15 _ (List.mem_of_getElem? (i := 0) rfl)
theorem wd_se_X3_X3_sendEmptyLetters : Cond.selects RX3 yX3_sendEmptyLetters yX3_sendEmptyLetters ∈ wsL_law := in_r15 _ (List.mem_of_getElem? (i := 1) rfl)
theorem wd_co_X3_sendEmptyLetters : Cond.code yX3_sendEmptyLetters cX3_sendEmptyLetters 5 none ∈ wsL_law := in_r15 _ (List.mem_of_getElem? (i := 2) rfl)
theorem wd_ml_X3_125 : Cond.methodLink RX3 125 Lib.Math.min.name ∈ wsL_law := in_r15 _ (List.mem_of_getElem? (i := 3) rfl)
theorem wd_st_Lib_Math_min_name : Cond.static Lib.Math.min.name ∈ wsL_law := in_r15 _ (List.mem_of_getElem? (i := 4) rfl)
theorem wd_co_Lib_Math_min_name : Cond.code Lib.Math.min.name Lib.Math.min.code 2 (some .int) ∈ wsL_law := in_r15 _ (List.mem_of_getElem? (i := 5) rfl)
theorem wd_fk_X3_128 : Cond.fieldLink RX3 128 "SafeParts$Channels" "promise" "[I" ∈ wsL_law := in_r15 _ (List.mem_of_getElem? (i := 6) rfl)
theorem wd_fk_X3_131 : Cond.fieldLink RX3 131 "SafeParts$Channels" "from" "[I" ∈ wsL_law := in_r15 _ (List.mem_of_getElem? (i := 7) rfl)
theorem wd_fk_X3_137 : Cond.fieldLink RX3 137 "SafeParts$Channels" "empties" "[I" ∈ wsL_law := in_r15 _ (List.mem_of_getElem? (i := 8) rfl)
theorem wd_ml_X3_134 : Cond.methodLink RX3 134 yX3_emptyMayGo ∈ wsL_law := in_r15 _ (List.mem_of_getElem? (i := 9) rfl)
theorem wd_im_X3_emptyMayGo : Cond.instanceMethod yX3_emptyMayGo ∈ wsL_law := in_r15 _ (List.mem_of_getElem? (i := 10) rfl)
theorem wd_se_X3_X3_emptyMayGo : Cond.selects RX3 yX3_emptyMayGo yX3_emptyMayGo ∈ wsL_law := in_r15 _ (List.mem_of_getElem? (i := 11) rfl)
theorem wd_co_X3_emptyMayGo : Cond.code yX3_emptyMayGo cX3_emptyMayGo 2 (some .boolean) ∈ wsL_law := in_r15 _ (List.mem_of_getElem? (i := 12) rfl)
theorem wd_ml_X3_140 : Cond.methodLink RX3 140 yX3_channelWaitedFor ∈ wsL_law := in_r15 _ (List.mem_of_getElem? (i := 13) rfl)
theorem wd_im_X3_channelWaitedFor : Cond.instanceMethod yX3_channelWaitedFor ∈ wsL_law := in_r15 _ (List.mem_of_getElem? (i := 14) rfl)
theorem wd_se_X3_X3_channelWaitedFor : Cond.selects RX3 yX3_channelWaitedFor yX3_channelWaitedFor ∈ wsL_law := in_r15 _ (List.mem_of_getElem? (i := 15) rfl)
theorem wd_co_X3_channelWaitedFor : Cond.code yX3_channelWaitedFor cX3_channelWaitedFor 3 (some .int) ∈ wsL_law := in_r15 _ (List.mem_of_getElem? (i := 16) rfl)
theorem wd_ml_L_40 : Cond.methodLink RL 40 yX5_run ∈ wsL_law := in_r15 _ (List.mem_of_getElem? (i := 17) rfl)
theorem wd_im_X5_run : Cond.instanceMethod yX5_run ∈ wsL_law := in_r15 _ (List.mem_of_getElem? (i := 18) rfl)
theorem wd_se_X5_X5_run : Cond.selects RX5 yX5_run yX5_run ∈ wsL_law := in_r15 _ (List.mem_of_getElem? (i := 19) rfl)
theorem wd_co_X5_run : Cond.code yX5_run cX5_run 5 (some .int) ∈ wsL_law := in_r15 _ (List.mem_of_getElem? (i := 20) rfl)
theorem wd_cl_X5_129 : Cond.constantLong RX5 129 (40) ∈ wsL_law := in_r15 _ (List.mem_of_getElem? (i := 21) rfl)
theorem wd_ml_X5_131 : Cond.methodLink RX5 131 yX5_canRun ∈ wsL_law := in_r15 _ (List.mem_of_getElem? (i := 22) rfl)
theorem wd_im_X5_canRun : Cond.instanceMethod yX5_canRun ∈ wsL_law := in_r15 _ (List.mem_of_getElem? (i := 23) rfl)
theorem wd_se_X5_X5_canRun : Cond.selects RX5 yX5_canRun yX5_canRun ∈ wsL_law := in_r16 _ (List.mem_of_getElem? (i := 0) rfl)
theorem wd_co_X5_canRun : Cond.code yX5_canRun cX5_canRun 1 (some .boolean) ∈ wsL_law := in_r16 _ (List.mem_of_getElem? (i := 1) rfl)
theorem wd_ml_X5_125 : Cond.methodLink RX5 125 yX5_isRing ∈ wsL_law := in_r16 _ (List.mem_of_getElem? (i := 2) rfl)
theorem wd_im_X5_isRing : Cond.instanceMethod yX5_isRing ∈ wsL_law := in_r16 _ (List.mem_of_getElem? (i := 3) rfl)
theorem wd_se_X5_X5_isRing : Cond.selects RX5 yX5_isRing yX5_isRing ∈ wsL_law := in_r16 _ (List.mem_of_getElem? (i := 4) rfl)
theorem wd_co_X5_isRing : Cond.code yX5_isRing cX5_isRing 3 (some .boolean) ∈ wsL_law := in_r16 _ (List.mem_of_getElem? (i := 5) rfl)
theorem wd_ml_X5_122 : Cond.methodLink RX5 122 yX5_ringOf ∈ wsL_law := in_r16 _ (List.mem_of_getElem? (i := 6) rfl)
theorem wd_im_X5_ringOf : Cond.instanceMethod yX5_ringOf ∈ wsL_law := in_r16 _ (List.mem_of_getElem? (i := 7) rfl)
theorem wd_se_X5_X5_ringOf : Cond.selects RX5 yX5_ringOf yX5_ringOf ∈ wsL_law := in_r16 _ (List.mem_of_getElem? (i := 8) rfl)
theorem wd_co_X5_ringOf : Cond.code yX5_ringOf cX5_ringOf 6 (some .int) ∈ wsL_law := in_r16 _ (List.mem_of_getElem? (i := 9) rfl)
theorem wd_ct_X5_91 : Cond.constant RX5 91 (99999999) ∈ wsL_law := in_r16 _ (List.mem_of_getElem? (i := 10) rfl)
theorem wd_ml_X5_134 : Cond.methodLink RX5 134 yX5_rounds ∈ wsL_law := in_r16 _ (List.mem_of_getElem? (i := 11) rfl)
theorem wd_im_X5_rounds : Cond.instanceMethod yX5_rounds ∈ wsL_law := in_r16 _ (List.mem_of_getElem? (i := 12) rfl)
theorem wd_se_X5_X5_rounds : Cond.selects RX5 yX5_rounds yX5_rounds ∈ wsL_law := in_r16 _ (List.mem_of_getElem? (i := 13) rfl)
theorem wd_co_X5_rounds : Cond.code yX5_rounds cX5_rounds 3 (some .boolean) ∈ wsL_law := in_r16 _ (List.mem_of_getElem? (i := 14) rfl)
theorem wd_ml_X5_108 : Cond.methodLink RX5 108 yX5_may ∈ wsL_law := in_r16 _ (List.mem_of_getElem? (i := 15) rfl)
theorem wd_im_X5_may : Cond.instanceMethod yX5_may ∈ wsL_law := in_r16 _ (List.mem_of_getElem? (i := 16) rfl)
theorem wd_se_X5_X5_may : Cond.selects RX5 yX5_may yX5_may ∈ wsL_law := in_r16 _ (List.mem_of_getElem? (i := 17) rfl)
theorem wd_co_X5_may : Cond.code yX5_may cX5_may 2 (some .boolean) ∈ wsL_law := in_r16 _ (List.mem_of_getElem? (i := 18) rfl)
theorem wd_ml_X5_88 : Cond.methodLink RX5 88 yX5_firstOf ∈ wsL_law := in_r16 _ (List.mem_of_getElem? (i := 19) rfl)
theorem wd_im_X5_firstOf : Cond.instanceMethod yX5_firstOf ∈ wsL_law := in_r16 _ (List.mem_of_getElem? (i := 20) rfl)
theorem wd_se_X5_X5_firstOf : Cond.selects RX5 yX5_firstOf yX5_firstOf ∈ wsL_law := in_r16 _ (List.mem_of_getElem? (i := 21) rfl)
theorem wd_co_X5_firstOf : Cond.code yX5_firstOf cX5_firstOf 6 (some .int) ∈ wsL_law := in_r16 _ (List.mem_of_getElem? (i := 22) rfl)
theorem wd_ml_X5_85 : Cond.methodLink RX5 85 yX5_isAhead ∈ wsL_law := in_r16 _ (List.mem_of_getElem? (i := 23) rfl)
theorem wd_im_X5_isAhead : Cond.instanceMethod yX5_isAhead ∈ wsL_law := in_r17 _ (List.mem_of_getElem? (i := 0) rfl)
theorem wd_se_X5_X5_isAhead : Cond.selects RX5 yX5_isAhead yX5_isAhead ∈ wsL_law := in_r17 _ (List.mem_of_getElem? (i := 1) rfl)
theorem wd_co_X5_isAhead : Cond.code yX5_isAhead cX5_isAhead 3 (some .boolean) ∈ wsL_law := in_r17 _ (List.mem_of_getElem? (i := 2) rfl)
theorem wd_ml_X5_95 : Cond.methodLink RX5 95 yX5_firstTime ∈ wsL_law := in_r17 _ (List.mem_of_getElem? (i := 3) rfl)
theorem wd_im_X5_firstTime : Cond.instanceMethod yX5_firstTime ∈ wsL_law := in_r17 _ (List.mem_of_getElem? (i := 4) rfl)
theorem wd_se_X5_X5_firstTime : Cond.selects RX5 yX5_firstTime yX5_firstTime ∈ wsL_law := in_r17 _ (List.mem_of_getElem? (i := 5) rfl)
theorem wd_co_X5_firstTime : Cond.code yX5_firstTime cX5_firstTime 4 (some .int) ∈ wsL_law := in_r17 _ (List.mem_of_getElem? (i := 6) rfl)
theorem wd_ml_X5_98 : Cond.methodLink RX5 98 yX5_safe ∈ wsL_law := in_r17 _ (List.mem_of_getElem? (i := 7) rfl)
theorem wd_im_X5_safe : Cond.instanceMethod yX5_safe ∈ wsL_law := in_r17 _ (List.mem_of_getElem? (i := 8) rfl)
theorem wd_se_X5_X5_safe : Cond.selects RX5 yX5_safe yX5_safe ∈ wsL_law := in_r17 _ (List.mem_of_getElem? (i := 9) rfl)
theorem wd_co_X5_safe : Cond.code yX5_safe cX5_safe 3 (some .int) ∈ wsL_law := in_r17 _ (List.mem_of_getElem? (i := 10) rfl)
theorem wd_ml_X5_92 : Cond.methodLink RX5 92 yX5_leastTo ∈ wsL_law := in_r17 _ (List.mem_of_getElem? (i := 11) rfl)
theorem wd_im_X5_leastTo : Cond.instanceMethod yX5_leastTo ∈ wsL_law := in_r17 _ (List.mem_of_getElem? (i := 12) rfl)
theorem wd_se_X5_X5_leastTo : Cond.selects RX5 yX5_leastTo yX5_leastTo ∈ wsL_law := in_r17 _ (List.mem_of_getElem? (i := 13) rfl)
theorem wd_co_X5_leastTo : Cond.code yX5_leastTo cX5_leastTo 4 (some .int) ∈ wsL_law := in_r17 _ (List.mem_of_getElem? (i := 14) rfl)
theorem wd_ml_X5_111 : Cond.methodLink RX5 111 yX5_works ∈ wsL_law := in_r17 _ (List.mem_of_getElem? (i := 15) rfl)
theorem wd_im_X5_works : Cond.instanceMethod yX5_works ∈ wsL_law := in_r17 _ (List.mem_of_getElem? (i := 16) rfl)
theorem wd_se_X5_X5_works : Cond.selects RX5 yX5_works yX5_works ∈ wsL_law := in_r17 _ (List.mem_of_getElem? (i := 17) rfl)
theorem wd_co_X5_works : Cond.code yX5_works cX5_works 10 none ∈ wsL_law := in_r17 _ (List.mem_of_getElem? (i := 18) rfl)
theorem wd_ct_X5_101 : Cond.constant RX5 101 (1000003) ∈ wsL_law := in_r17 _ (List.mem_of_getElem? (i := 19) rfl)
theorem wd_ml_X5_102 : Cond.methodLink RX5 102 yX5_outOf ∈ wsL_law := in_r17 _ (List.mem_of_getElem? (i := 20) rfl)
theorem wd_im_X5_outOf : Cond.instanceMethod yX5_outOf ∈ wsL_law := in_r17 _ (List.mem_of_getElem? (i := 21) rfl)
theorem wd_se_X5_X5_outOf : Cond.selects RX5 yX5_outOf yX5_outOf ∈ wsL_law := in_r17 _ (List.mem_of_getElem? (i := 22) rfl)
theorem wd_co_X5_outOf : Cond.code yX5_outOf cX5_outOf 5 (some .int) ∈ wsL_law := in_r17 _ (List.mem_of_getElem? (i := 23) rfl)
theorem wd_ml_X5_105 : Cond.methodLink RX5 105 yX5_outAt ∈ wsL_law := in_r18 _ (List.mem_of_getElem? (i := 0) rfl)
theorem wd_im_X5_outAt : Cond.instanceMethod yX5_outAt ∈ wsL_law := in_r18 _ (List.mem_of_getElem? (i := 1) rfl)
theorem wd_se_X5_X5_outAt : Cond.selects RX5 yX5_outAt yX5_outAt ∈ wsL_law := in_r18 _ (List.mem_of_getElem? (i := 2) rfl)
theorem wd_co_X5_outAt : Cond.code yX5_outAt cX5_outAt 7 (some .int) ∈ wsL_law := in_r18 _ (List.mem_of_getElem? (i := 3) rfl)
theorem wd_ml_X5_115 : Cond.methodLink RX5 115 yX5_empties ∈ wsL_law := in_r18 _ (List.mem_of_getElem? (i := 4) rfl)
theorem wd_im_X5_empties : Cond.instanceMethod yX5_empties ∈ wsL_law := in_r18 _ (List.mem_of_getElem? (i := 5) rfl)
theorem wd_se_X5_X5_empties : Cond.selects RX5 yX5_empties yX5_empties ∈ wsL_law := in_r18 _ (List.mem_of_getElem? (i := 6) rfl)
theorem wd_co_X5_empties : Cond.code yX5_empties cX5_empties 11 (some .int) ∈ wsL_law := in_r18 _ (List.mem_of_getElem? (i := 7) rfl)
theorem wd_ml_L_41 : Cond.methodLink RL 41 yX4_letGo ∈ wsL_law := in_r18 _ (List.mem_of_getElem? (i := 8) rfl)
theorem wd_im_X4_letGo : Cond.instanceMethod yX4_letGo ∈ wsL_law := in_r18 _ (List.mem_of_getElem? (i := 9) rfl)
theorem wd_se_X4_X4_letGo : Cond.selects RX4 yX4_letGo yX4_letGo ∈ wsL_law := in_r18 _ (List.mem_of_getElem? (i := 10) rfl)
theorem wd_co_X4_letGo : Cond.code yX4_letGo cX4_letGo 1 (some .int) ∈ wsL_law := in_r18 _ (List.mem_of_getElem? (i := 11) rfl)
theorem wd_ml_X4_117 : Cond.methodLink RX4 117 yX3_partsThatMay ∈ wsL_law := in_r18 _ (List.mem_of_getElem? (i := 12) rfl)
theorem wd_im_X3_partsThatMay : Cond.instanceMethod yX3_partsThatMay ∈ wsL_law := in_r18 _ (List.mem_of_getElem? (i := 13) rfl)
theorem wd_se_X3_X3_partsThatMay : Cond.selects RX3 yX3_partsThatMay yX3_partsThatMay ∈ wsL_law := in_r18 _ (List.mem_of_getElem? (i := 14) rfl)
theorem wd_co_X3_partsThatMay : Cond.code yX3_partsThatMay cX3_partsThatMay 3 (some .int) ∈ wsL_law := in_r18 _ (List.mem_of_getElem? (i := 15) rfl)
theorem wd_ml_X3_86 : Cond.methodLink RX3 86 yX3_mayWork ∈ wsL_law := in_r18 _ (List.mem_of_getElem? (i := 16) rfl)
theorem wd_ml_X4_120 : Cond.methodLink RX4 120 yX4_letEarliestGo ∈ wsL_law := in_r18 _ (List.mem_of_getElem? (i := 17) rfl)
theorem wd_im_X4_letEarliestGo : Cond.instanceMethod yX4_letEarliestGo ∈ wsL_law := in_r18 _ (List.mem_of_getElem? (i := 18) rfl)
theorem wd_se_X4_X4_letEarliestGo : Cond.selects RX4 yX4_letEarliestGo yX4_letEarliestGo ∈ wsL_law := in_r18 _ (List.mem_of_getElem? (i := 19) rfl)
theorem wd_co_X4_letEarliestGo : Cond.code yX4_letEarliestGo cX4_letEarliestGo 4 (some .int) ∈ wsL_law := in_r18 _ (List.mem_of_getElem? (i := 20) rfl)
theorem wd_fk_X4_129 : Cond.fieldLink RX4 129 "SafeParts$World" "timesLetGo" "I" ∈ wsL_law := in_r18 _ (List.mem_of_getElem? (i := 21) rfl)
theorem wd_ml_X4_132 : Cond.methodLink RX4 132 yX3_leastTime ∈ wsL_law := in_r18 _ (List.mem_of_getElem? (i := 22) rfl)
theorem wd_im_X3_leastTime : Cond.instanceMethod yX3_leastTime ∈ wsL_law := in_r18 _ (List.mem_of_getElem? (i := 23) rfl)
theorem wd_se_X3_X3_leastTime : Cond.selects RX3 yX3_leastTime yX3_leastTime ∈ wsL_law := in_r19 _ (List.mem_of_getElem? (i := 0) rfl)
theorem wd_co_X3_leastTime : Cond.code yX3_leastTime cX3_leastTime 1 (some .int) ∈ wsL_law := in_r19 _ (List.mem_of_getElem? (i := 1) rfl)
theorem wd_ml_X3_72 : Cond.methodLink RX3 72 yX3_partOfLeastTime ∈ wsL_law := in_r19 _ (List.mem_of_getElem? (i := 2) rfl)
theorem wd_im_X3_partOfLeastTime : Cond.instanceMethod yX3_partOfLeastTime ∈ wsL_law := in_r19 _ (List.mem_of_getElem? (i := 3) rfl)
theorem wd_se_X3_X3_partOfLeastTime : Cond.selects RX3 yX3_partOfLeastTime yX3_partOfLeastTime ∈ wsL_law := in_r19 _ (List.mem_of_getElem? (i := 4) rfl)
theorem wd_co_X3_partOfLeastTime : Cond.code yX3_partOfLeastTime cX3_partOfLeastTime 3 (some .int) ∈ wsL_law := in_r19 _ (List.mem_of_getElem? (i := 5) rfl)
theorem wd_ml_X4_247 : Cond.methodLink RX4 247 yX0_raiseClocks ∈ wsL_law := in_r19 _ (List.mem_of_getElem? (i := 6) rfl)
theorem wd_im_X0_raiseClocks : Cond.instanceMethod yX0_raiseClocks ∈ wsL_law := in_r19 _ (List.mem_of_getElem? (i := 7) rfl)
theorem wd_se_X0_X0_raiseClocks : Cond.selects RX0 yX0_raiseClocks yX0_raiseClocks ∈ wsL_law := in_r19 _ (List.mem_of_getElem? (i := 8) rfl)
theorem wd_co_X0_raiseClocks : Cond.code yX0_raiseClocks cX0_raiseClocks 3 none ∈ wsL_law := in_r19 _ (List.mem_of_getElem? (i := 9) rfl)
theorem wd_ml_X0_43 : Cond.methodLink RX0 43 Lib.Math.max.name ∈ wsL_law := in_r19 _ (List.mem_of_getElem? (i := 10) rfl)
theorem wd_ml_L_45 : Cond.methodLink RL 45 yX5_letGo ∈ wsL_law := in_r19 _ (List.mem_of_getElem? (i := 11) rfl)
theorem wd_im_X5_letGo : Cond.instanceMethod yX5_letGo ∈ wsL_law := in_r19 _ (List.mem_of_getElem? (i := 12) rfl)
theorem wd_se_X5_X5_letGo : Cond.selects RX5 yX5_letGo yX5_letGo ∈ wsL_law := in_r19 _ (List.mem_of_getElem? (i := 13) rfl)
theorem wd_co_X5_letGo : Cond.code yX5_letGo cX5_letGo 1 (some .int) ∈ wsL_law := in_r19 _ (List.mem_of_getElem? (i := 14) rfl)
theorem wd_ml_X5_137 : Cond.methodLink RX5 137 yX5_allMay ∈ wsL_law := in_r19 _ (List.mem_of_getElem? (i := 15) rfl)
theorem wd_im_X5_allMay : Cond.instanceMethod yX5_allMay ∈ wsL_law := in_r19 _ (List.mem_of_getElem? (i := 16) rfl)
theorem wd_se_X5_X5_allMay : Cond.selects RX5 yX5_allMay yX5_allMay ∈ wsL_law := in_r19 _ (List.mem_of_getElem? (i := 17) rfl)
theorem wd_co_X5_allMay : Cond.code yX5_allMay cX5_allMay 3 (some .int) ∈ wsL_law := in_r19 _ (List.mem_of_getElem? (i := 18) rfl)
theorem wd_ml_X5_140 : Cond.methodLink RX5 140 yX5_lets ∈ wsL_law := in_r19 _ (List.mem_of_getElem? (i := 19) rfl)
theorem wd_im_X5_lets : Cond.instanceMethod yX5_lets ∈ wsL_law := in_r19 _ (List.mem_of_getElem? (i := 20) rfl)
theorem wd_se_X5_X5_lets : Cond.selects RX5 yX5_lets yX5_lets ∈ wsL_law := in_r19 _ (List.mem_of_getElem? (i := 21) rfl)
theorem wd_co_X5_lets : Cond.code yX5_lets cX5_lets 3 (some .int) ∈ wsL_law := in_r19 _ (List.mem_of_getElem? (i := 22) rfl)
theorem wd_ml_X5_118 : Cond.methodLink RX5 118 yX5_leastTime ∈ wsL_law := in_r19 _ (List.mem_of_getElem? (i := 23) rfl)
theorem wd_im_X5_leastTime : Cond.instanceMethod yX5_leastTime ∈ wsL_law := in_r20 _ (List.mem_of_getElem? (i := 0) rfl)
theorem wd_se_X5_X5_leastTime : Cond.selects RX5 yX5_leastTime yX5_leastTime ∈ wsL_law := in_r20 _ (List.mem_of_getElem? (i := 1) rfl)
theorem wd_co_X5_leastTime : Cond.code yX5_leastTime cX5_leastTime 4 (some .int) ∈ wsL_law := in_r20 _ (List.mem_of_getElem? (i := 2) rfl)
theorem wd_ml_L_46 : Cond.methodLink RL 46 yX4_finish ∈ wsL_law := in_r20 _ (List.mem_of_getElem? (i := 3) rfl)
theorem wd_im_X4_finish : Cond.instanceMethod yX4_finish ∈ wsL_law := in_r20 _ (List.mem_of_getElem? (i := 4) rfl)
theorem wd_se_X4_X4_finish : Cond.selects RX4 yX4_finish yX4_finish ∈ wsL_law := in_r20 _ (List.mem_of_getElem? (i := 5) rfl)
theorem wd_co_X4_finish : Cond.code yX4_finish cX4_finish 4 (some .int) ∈ wsL_law := in_r20 _ (List.mem_of_getElem? (i := 6) rfl)
theorem wd_ml_L_49 : Cond.methodLink RL 49 yX5_finish ∈ wsL_law := in_r20 _ (List.mem_of_getElem? (i := 7) rfl)
theorem wd_im_X5_finish : Cond.instanceMethod yX5_finish ∈ wsL_law := in_r20 _ (List.mem_of_getElem? (i := 8) rfl)
theorem wd_se_X5_X5_finish : Cond.selects RX5 yX5_finish yX5_finish ∈ wsL_law := in_r20 _ (List.mem_of_getElem? (i := 9) rfl)
theorem wd_co_X5_finish : Cond.code yX5_finish cX5_finish 5 (some .int) ∈ wsL_law := in_r20 _ (List.mem_of_getElem? (i := 10) rfl)
theorem wd_ml_L_50 : Cond.methodLink RL 50 yX4_told ∈ wsL_law := in_r20 _ (List.mem_of_getElem? (i := 11) rfl)
theorem wd_im_X4_told : Cond.instanceMethod yX4_told ∈ wsL_law := in_r20 _ (List.mem_of_getElem? (i := 12) rfl)
theorem wd_se_X4_X4_told : Cond.selects RX4 yX4_told yX4_told ∈ wsL_law := in_r20 _ (List.mem_of_getElem? (i := 13) rfl)
theorem wd_co_X4_told : Cond.code yX4_told cX4_told 2 (some .int) ∈ wsL_law := in_r20 _ (List.mem_of_getElem? (i := 14) rfl)
theorem wd_fk_X4_135 : Cond.fieldLink RX4 135 "SafeParts$Log" "size" "I" ∈ wsL_law := in_r20 _ (List.mem_of_getElem? (i := 15) rfl)
theorem wd_ml_L_53 : Cond.methodLink RL 53 yX5_told ∈ wsL_law := in_r20 _ (List.mem_of_getElem? (i := 16) rfl)
theorem wd_im_X5_told : Cond.instanceMethod yX5_told ∈ wsL_law := in_r20 _ (List.mem_of_getElem? (i := 17) rfl)
theorem wd_se_X5_X5_told : Cond.selects RX5 yX5_told yX5_told ∈ wsL_law := in_r20 _ (List.mem_of_getElem? (i := 18) rfl)
theorem wd_co_X5_told : Cond.code yX5_told cX5_told 2 (some .int) ∈ wsL_law := in_r20 _ (List.mem_of_getElem? (i := 19) rfl)
theorem wd_ml_L_54 : Cond.methodLink RL 54 yX4_part ∈ wsL_law := in_r20 _ (List.mem_of_getElem? (i := 20) rfl)
theorem wd_im_X4_part : Cond.instanceMethod yX4_part ∈ wsL_law := in_r20 _ (List.mem_of_getElem? (i := 21) rfl)
theorem wd_se_X4_X4_part : Cond.selects RX4 yX4_part yX4_part ∈ wsL_law := in_r20 _ (List.mem_of_getElem? (i := 22) rfl)
theorem wd_co_X4_part : Cond.code yX4_part cX4_part 3 (some .int) ∈ wsL_law := in_r20 _ (List.mem_of_getElem? (i := 23) rfl)
theorem wd_fk_X4_146 : Cond.fieldLink RX4 146 "SafeParts$World" "count" "[I" ∈ wsL_law := in_r21 _ (List.mem_of_getElem? (i := 0) rfl)
theorem wd_fk_X4_149 : Cond.fieldLink RX4 149 "SafeParts$World" "sum" "[I" ∈ wsL_law := in_r21 _ (List.mem_of_getElem? (i := 1) rfl)
theorem wd_fk_X4_160 : Cond.fieldLink RX4 160 "SafeParts$Waiting" "size" "I" ∈ wsL_law := in_r21 _ (List.mem_of_getElem? (i := 2) rfl)
theorem wd_ml_X4_152 : Cond.methodLink RX4 152 yX3_safeOf ∈ wsL_law := in_r21 _ (List.mem_of_getElem? (i := 3) rfl)
theorem wd_ml_X4_172 : Cond.methodLink RX4 172 yX3_channelWaitedFor ∈ wsL_law := in_r21 _ (List.mem_of_getElem? (i := 4) rfl)
theorem wd_ml_X4_175 : Cond.methodLink RX4 175 yX0_countFrom ∈ wsL_law := in_r21 _ (List.mem_of_getElem? (i := 5) rfl)
theorem wd_ml_X4_178 : Cond.methodLink RX4 178 yX0_countTo ∈ wsL_law := in_r21 _ (List.mem_of_getElem? (i := 6) rfl)
theorem wd_im_X0_countTo : Cond.instanceMethod yX0_countTo ∈ wsL_law := in_r21 _ (List.mem_of_getElem? (i := 7) rfl)
theorem wd_se_X0_X0_countTo : Cond.selects RX0 yX0_countTo yX0_countTo ∈ wsL_law := in_r21 _ (List.mem_of_getElem? (i := 8) rfl)
theorem wd_co_X0_countTo : Cond.code yX0_countTo cX0_countTo 4 (some .int) ∈ wsL_law := in_r21 _ (List.mem_of_getElem? (i := 9) rfl)
theorem wd_ml_L_57 : Cond.methodLink RL 57 yX5_part ∈ wsL_law := in_r21 _ (List.mem_of_getElem? (i := 10) rfl)
theorem wd_im_X5_part : Cond.instanceMethod yX5_part ∈ wsL_law := in_r21 _ (List.mem_of_getElem? (i := 11) rfl)
theorem wd_se_X5_X5_part : Cond.selects RX5 yX5_part yX5_part ∈ wsL_law := in_r21 _ (List.mem_of_getElem? (i := 12) rfl)
theorem wd_co_X5_part : Cond.code yX5_part cX5_part 3 (some .int) ∈ wsL_law := in_r21 _ (List.mem_of_getElem? (i := 13) rfl)
theorem wd_ml_X5_143 : Cond.methodLink RX5 143 yX5_firstValue ∈ wsL_law := in_r21 _ (List.mem_of_getElem? (i := 14) rfl)
theorem wd_im_X5_firstValue : Cond.instanceMethod yX5_firstValue ∈ wsL_law := in_r21 _ (List.mem_of_getElem? (i := 15) rfl)
theorem wd_se_X5_X5_firstValue : Cond.selects RX5 yX5_firstValue yX5_firstValue ∈ wsL_law := in_r21 _ (List.mem_of_getElem? (i := 16) rfl)
theorem wd_co_X5_firstValue : Cond.code yX5_firstValue cX5_firstValue 3 (some .int) ∈ wsL_law := in_r21 _ (List.mem_of_getElem? (i := 17) rfl)
theorem wd_ml_X5_146 : Cond.methodLink RX5 146 yX5_waitsBy ∈ wsL_law := in_r21 _ (List.mem_of_getElem? (i := 18) rfl)
theorem wd_im_X5_waitsBy : Cond.instanceMethod yX5_waitsBy ∈ wsL_law := in_r21 _ (List.mem_of_getElem? (i := 19) rfl)
theorem wd_se_X5_X5_waitsBy : Cond.selects RX5 yX5_waitsBy yX5_waitsBy ∈ wsL_law := in_r21 _ (List.mem_of_getElem? (i := 20) rfl)
theorem wd_co_X5_waitsBy : Cond.code yX5_waitsBy cX5_waitsBy 2 (some .int) ∈ wsL_law := in_r21 _ (List.mem_of_getElem? (i := 21) rfl)
theorem wd_ml_X5_149 : Cond.methodLink RX5 149 yX5_waysTo ∈ wsL_law := in_r21 _ (List.mem_of_getElem? (i := 22) rfl)
theorem wd_im_X5_waysTo : Cond.instanceMethod yX5_waysTo ∈ wsL_law := in_r21 _ (List.mem_of_getElem? (i := 23) rfl)
theorem wd_se_X5_X5_waysTo : Cond.selects RX5 yX5_waysTo yX5_waysTo ∈ wsL_law := in_r22 _ (List.mem_of_getElem? (i := 0) rfl)
theorem wd_co_X5_waysTo : Cond.code yX5_waysTo cX5_waysTo 4 (some .int) ∈ wsL_law := in_r22 _ (List.mem_of_getElem? (i := 1) rfl)
theorem wd_ml_L_58 : Cond.methodLink RL 58 yX4_channelOf ∈ wsL_law := in_r22 _ (List.mem_of_getElem? (i := 2) rfl)
theorem wd_im_X4_channelOf : Cond.instanceMethod yX4_channelOf ∈ wsL_law := in_r22 _ (List.mem_of_getElem? (i := 3) rfl)
theorem wd_se_X4_X4_channelOf : Cond.selects RX4 yX4_channelOf yX4_channelOf ∈ wsL_law := in_r22 _ (List.mem_of_getElem? (i := 4) rfl)
theorem wd_co_X4_channelOf : Cond.code yX4_channelOf cX4_channelOf 4 (some .int) ∈ wsL_law := in_r22 _ (List.mem_of_getElem? (i := 5) rfl)
theorem wd_fk_X4_181 : Cond.fieldLink RX4 181 "SafeParts$Channels" "from" "[I" ∈ wsL_law := in_r22 _ (List.mem_of_getElem? (i := 6) rfl)
theorem wd_fk_X4_184 : Cond.fieldLink RX4 184 "SafeParts$Channels" "to" "[I" ∈ wsL_law := in_r22 _ (List.mem_of_getElem? (i := 7) rfl)
theorem wd_fk_X4_187 : Cond.fieldLink RX4 187 "SafeParts$Channels" "promise" "[I" ∈ wsL_law := in_r22 _ (List.mem_of_getElem? (i := 8) rfl)
theorem wd_fk_X4_190 : Cond.fieldLink RX4 190 "SafeParts$Channels" "delay" "[I" ∈ wsL_law := in_r22 _ (List.mem_of_getElem? (i := 9) rfl)
theorem wd_fk_X4_193 : Cond.fieldLink RX4 193 "SafeParts$Channels" "clock" "[I" ∈ wsL_law := in_r22 _ (List.mem_of_getElem? (i := 10) rfl)
theorem wd_fk_X4_196 : Cond.fieldLink RX4 196 "SafeParts$Channels" "letters" "[I" ∈ wsL_law := in_r22 _ (List.mem_of_getElem? (i := 11) rfl)
theorem wd_fk_X4_199 : Cond.fieldLink RX4 199 "SafeParts$Channels" "empties" "[I" ∈ wsL_law := in_r22 _ (List.mem_of_getElem? (i := 12) rfl)
theorem wd_ml_L_61 : Cond.methodLink RL 61 yX5_channelOf ∈ wsL_law := in_r22 _ (List.mem_of_getElem? (i := 13) rfl)
theorem wd_im_X5_channelOf : Cond.instanceMethod yX5_channelOf ∈ wsL_law := in_r22 _ (List.mem_of_getElem? (i := 14) rfl)
theorem wd_se_X5_X5_channelOf : Cond.selects RX5 yX5_channelOf yX5_channelOf ∈ wsL_law := in_r22 _ (List.mem_of_getElem? (i := 15) rfl)
theorem wd_co_X5_channelOf : Cond.code yX5_channelOf cX5_channelOf 3 (some .int) ∈ wsL_law := in_r22 _ (List.mem_of_getElem? (i := 16) rfl)
theorem wd_ml_X5_152 : Cond.methodLink RX5 152 yX5_isChannel ∈ wsL_law := in_r22 _ (List.mem_of_getElem? (i := 17) rfl)
theorem wd_im_X5_isChannel : Cond.instanceMethod yX5_isChannel ∈ wsL_law := in_r22 _ (List.mem_of_getElem? (i := 18) rfl)
theorem wd_se_X5_X5_isChannel : Cond.selects RX5 yX5_isChannel yX5_isChannel ∈ wsL_law := in_r22 _ (List.mem_of_getElem? (i := 19) rfl)
theorem wd_co_X5_isChannel : Cond.code yX5_isChannel cX5_isChannel 2 (some .boolean) ∈ wsL_law := in_r22 _ (List.mem_of_getElem? (i := 20) rfl)
theorem wd_ml_L_62 : Cond.methodLink RL 62 yX4_between ∈ wsL_law := in_r22 _ (List.mem_of_getElem? (i := 21) rfl)
theorem wd_im_X4_between : Cond.instanceMethod yX4_between ∈ wsL_law := in_r22 _ (List.mem_of_getElem? (i := 22) rfl)
theorem wd_se_X4_X4_between : Cond.selects RX4 yX4_between yX4_between ∈ wsL_law := in_r22 _ (List.mem_of_getElem? (i := 23) rfl)
theorem wd_co_X4_between : Cond.code yX4_between cX4_between 3 (some .int) ∈ wsL_law := in_r23 _ (List.mem_of_getElem? (i := 0) rfl)
theorem wd_ml_L_65 : Cond.methodLink RL 65 yX5_between ∈ wsL_law := in_r23 _ (List.mem_of_getElem? (i := 1) rfl)
theorem wd_im_X5_between : Cond.instanceMethod yX5_between ∈ wsL_law := in_r23 _ (List.mem_of_getElem? (i := 2) rfl)
theorem wd_se_X5_X5_between : Cond.selects RX5 yX5_between yX5_between ∈ wsL_law := in_r23 _ (List.mem_of_getElem? (i := 3) rfl)
theorem wd_co_X5_between : Cond.code yX5_between cX5_between 3 (some .int) ∈ wsL_law := in_r23 _ (List.mem_of_getElem? (i := 4) rfl)
theorem wd_ml_L_66 : Cond.methodLink RL 66 yX4_record ∈ wsL_law := in_r23 _ (List.mem_of_getElem? (i := 5) rfl)
theorem wd_im_X4_record : Cond.instanceMethod yX4_record ∈ wsL_law := in_r23 _ (List.mem_of_getElem? (i := 6) rfl)
theorem wd_se_X4_X4_record : Cond.selects RX4 yX4_record yX4_record ∈ wsL_law := in_r23 _ (List.mem_of_getElem? (i := 7) rfl)
theorem wd_co_X4_record : Cond.code yX4_record cX4_record 3 (some .int) ∈ wsL_law := in_r23 _ (List.mem_of_getElem? (i := 8) rfl)
theorem wd_fk_X4_202 : Cond.fieldLink RX4 202 "SafeParts$Log" "part" "[I" ∈ wsL_law := in_r23 _ (List.mem_of_getElem? (i := 9) rfl)
theorem wd_fk_X4_205 : Cond.fieldLink RX4 205 "SafeParts$Log" "time" "[I" ∈ wsL_law := in_r23 _ (List.mem_of_getElem? (i := 10) rfl)
theorem wd_fk_X4_208 : Cond.fieldLink RX4 208 "SafeParts$Log" "value" "[I" ∈ wsL_law := in_r23 _ (List.mem_of_getElem? (i := 11) rfl)
theorem wd_fk_X4_211 : Cond.fieldLink RX4 211 "SafeParts$Log" "round" "[I" ∈ wsL_law := in_r23 _ (List.mem_of_getElem? (i := 12) rfl)
theorem wd_ml_L_69 : Cond.methodLink RL 69 yX5_record ∈ wsL_law := in_r23 _ (List.mem_of_getElem? (i := 13) rfl)
theorem wd_im_X5_record : Cond.instanceMethod yX5_record ∈ wsL_law := in_r23 _ (List.mem_of_getElem? (i := 14) rfl)
theorem wd_se_X5_X5_record : Cond.selects RX5 yX5_record yX5_record ∈ wsL_law := in_r23 _ (List.mem_of_getElem? (i := 15) rfl)
theorem wd_co_X5_record : Cond.code yX5_record cX5_record 3 (some .int) ∈ wsL_law := in_r23 _ (List.mem_of_getElem? (i := 16) rfl)
theorem wd_cl_X5_155 : Cond.constantLong RX5 155 (3) ∈ wsL_law := in_r23 _ (List.mem_of_getElem? (i := 17) rfl)
theorem wd_ml_L_70 : Cond.methodLink RL 70 yX4_ring ∈ wsL_law := in_r23 _ (List.mem_of_getElem? (i := 18) rfl)
theorem wd_im_X4_ring : Cond.instanceMethod yX4_ring ∈ wsL_law := in_r23 _ (List.mem_of_getElem? (i := 19) rfl)
theorem wd_se_X4_X4_ring : Cond.selects RX4 yX4_ring yX4_ring ∈ wsL_law := in_r23 _ (List.mem_of_getElem? (i := 20) rfl)
theorem wd_co_X4_ring : Cond.code yX4_ring cX4_ring 3 (some .int) ∈ wsL_law := in_r23 _ (List.mem_of_getElem? (i := 21) rfl)
theorem wd_ct_X4_217 : Cond.constant RX4 217 (99999999) ∈ wsL_law := in_r23 _ (List.mem_of_getElem? (i := 22) rfl)
theorem wd_ml_X4_214 : Cond.methodLink RX4 214 yX4_leastPromisesRound ∈ wsL_law := in_r23 _ (List.mem_of_getElem? (i := 23) rfl)
theorem wd_im_X4_leastPromisesRound : Cond.instanceMethod yX4_leastPromisesRound ∈ wsL_law := in_r24 _ (List.mem_of_getElem? (i := 0) rfl)
theorem wd_se_X4_X4_leastPromisesRound : Cond.selects RX4 yX4_leastPromisesRound yX4_leastPromisesRound ∈ wsL_law := in_r24 _ (List.mem_of_getElem? (i := 1) rfl)
theorem wd_co_X4_leastPromisesRound : Cond.code yX4_leastPromisesRound cX4_leastPromisesRound 8 (some .int) ∈ wsL_law := in_r24 _ (List.mem_of_getElem? (i := 2) rfl)
theorem wd_ml_X4_253 : Cond.methodLink RX4 253 Lib.Math.min.name ∈ wsL_law := in_r24 _ (List.mem_of_getElem? (i := 3) rfl)
theorem wd_ml_L_73 : Cond.methodLink RL 73 yX5_ring ∈ wsL_law := in_r24 _ (List.mem_of_getElem? (i := 4) rfl)
theorem wd_im_X5_ring : Cond.instanceMethod yX5_ring ∈ wsL_law := in_r24 _ (List.mem_of_getElem? (i := 5) rfl)
theorem wd_se_X5_X5_ring : Cond.selects RX5 yX5_ring yX5_ring ∈ wsL_law := in_r24 _ (List.mem_of_getElem? (i := 6) rfl)
theorem wd_co_X5_ring : Cond.code yX5_ring cX5_ring 2 (some .int) ∈ wsL_law := in_r24 _ (List.mem_of_getElem? (i := 7) rfl)
theorem wd_ml_L_74 : Cond.methodLink RL 74 yX4_waits ∈ wsL_law := in_r24 _ (List.mem_of_getElem? (i := 8) rfl)
theorem wd_im_X4_waits : Cond.instanceMethod yX4_waits ∈ wsL_law := in_r24 _ (List.mem_of_getElem? (i := 9) rfl)
theorem wd_se_X4_X4_waits : Cond.selects RX4 yX4_waits yX4_waits ∈ wsL_law := in_r24 _ (List.mem_of_getElem? (i := 10) rfl)
theorem wd_co_X4_waits : Cond.code yX4_waits cX4_waits 6 (some .int) ∈ wsL_law := in_r24 _ (List.mem_of_getElem? (i := 11) rfl)
theorem wd_ml_L_77 : Cond.methodLink RL 77 yX5_waits ∈ wsL_law := in_r24 _ (List.mem_of_getElem? (i := 12) rfl)
theorem wd_im_X5_waits : Cond.instanceMethod yX5_waits ∈ wsL_law := in_r24 _ (List.mem_of_getElem? (i := 13) rfl)
theorem wd_se_X5_X5_waits : Cond.selects RX5 yX5_waits yX5_waits ∈ wsL_law := in_r24 _ (List.mem_of_getElem? (i := 14) rfl)
theorem wd_co_X5_waits : Cond.code yX5_waits cX5_waits 6 (some .int) ∈ wsL_law := in_r24 _ (List.mem_of_getElem? (i := 15) rfl)
theorem wd_ml_X5_157 : Cond.methodLink RX5 157 yX5_has ∈ wsL_law := in_r24 _ (List.mem_of_getElem? (i := 16) rfl)
theorem wd_st_X5_has : Cond.static yX5_has ∈ wsL_law := in_r24 _ (List.mem_of_getElem? (i := 17) rfl)
theorem wd_co_X5_has : Cond.code yX5_has cX5_has 2 (some .boolean) ∈ wsL_law := in_r24 _ (List.mem_of_getElem? (i := 18) rfl)
theorem wd_ml_L_78 : Cond.methodLink RL 78 yX4_inOrder ∈ wsL_law := in_r24 _ (List.mem_of_getElem? (i := 19) rfl)
theorem wd_im_X4_inOrder : Cond.instanceMethod yX4_inOrder ∈ wsL_law := in_r24 _ (List.mem_of_getElem? (i := 20) rfl)
theorem wd_se_X4_X4_inOrder : Cond.selects RX4 yX4_inOrder yX4_inOrder ∈ wsL_law := in_r24 _ (List.mem_of_getElem? (i := 21) rfl)
theorem wd_co_X4_inOrder : Cond.code yX4_inOrder cX4_inOrder 4 (some .int) ∈ wsL_law := in_r24 _ (List.mem_of_getElem? (i := 22) rfl)
theorem wd_ml_X4_218 : Cond.methodLink RX4 218 yX3_copyFrom ∈ wsL_law := in_r24 _ (List.mem_of_getElem? (i := 23) rfl)
theorem wd_im_X3_copyFrom : Cond.instanceMethod yX3_copyFrom ∈ wsL_law := in_r25 _ (List.mem_of_getElem? (i := 0) rfl)
theorem wd_se_X3_X3_copyFrom : Cond.selects RX3 yX3_copyFrom yX3_copyFrom ∈ wsL_law := in_r25 _ (List.mem_of_getElem? (i := 1) rfl)
theorem wd_co_X3_copyFrom : Cond.code yX3_copyFrom cX3_copyFrom 3 none ∈ wsL_law := in_r25 _ (List.mem_of_getElem? (i := 2) rfl)
theorem wd_ml_X3_61 : Cond.methodLink RX3 61 yX0_copyFrom ∈ wsL_law := in_r25 _ (List.mem_of_getElem? (i := 3) rfl)
theorem wd_im_X0_copyFrom : Cond.instanceMethod yX0_copyFrom ∈ wsL_law := in_r25 _ (List.mem_of_getElem? (i := 4) rfl)
theorem wd_se_X0_X0_copyFrom : Cond.selects RX0 yX0_copyFrom yX0_copyFrom ∈ wsL_law := in_r25 _ (List.mem_of_getElem? (i := 5) rfl)
theorem wd_co_X0_copyFrom : Cond.code yX0_copyFrom cX0_copyFrom 2 none ∈ wsL_law := in_r25 _ (List.mem_of_getElem? (i := 6) rfl)
theorem wd_ml_X0_37 : Cond.methodLink RX0 37 arraycopyName ∈ wsL_law := in_r25 _ (List.mem_of_getElem? (i := 7) rfl)
theorem wd_ml_X3_65 : Cond.methodLink RX3 65 yX2_copyFrom ∈ wsL_law := in_r25 _ (List.mem_of_getElem? (i := 8) rfl)
theorem wd_im_X2_copyFrom : Cond.instanceMethod yX2_copyFrom ∈ wsL_law := in_r25 _ (List.mem_of_getElem? (i := 9) rfl)
theorem wd_se_X2_X2_copyFrom : Cond.selects RX2 yX2_copyFrom yX2_copyFrom ∈ wsL_law := in_r25 _ (List.mem_of_getElem? (i := 10) rfl)
theorem wd_co_X2_copyFrom : Cond.code yX2_copyFrom cX2_copyFrom 2 none ∈ wsL_law := in_r25 _ (List.mem_of_getElem? (i := 11) rfl)
theorem wd_ml_X4_222 : Cond.methodLink RX4 222 yX3_partOfLeastTime ∈ wsL_law := in_r25 _ (List.mem_of_getElem? (i := 12) rfl)
theorem wd_ml_L_81 : Cond.methodLink RL 81 yX5_inOrder ∈ wsL_law := in_r25 _ (List.mem_of_getElem? (i := 13) rfl)
theorem wd_im_X5_inOrder : Cond.instanceMethod yX5_inOrder ∈ wsL_law := in_r25 _ (List.mem_of_getElem? (i := 14) rfl)
theorem wd_se_X5_X5_inOrder : Cond.selects RX5 yX5_inOrder yX5_inOrder ∈ wsL_law := in_r25 _ (List.mem_of_getElem? (i := 15) rfl)
theorem wd_co_X5_inOrder : Cond.code yX5_inOrder cX5_inOrder 8 (some .int) ∈ wsL_law := in_r25 _ (List.mem_of_getElem? (i := 16) rfl)
theorem wd_ml_X5_160 : Cond.methodLink RX5 160 yX5_copy ∈ wsL_law := in_r25 _ (List.mem_of_getElem? (i := 17) rfl)
theorem wd_im_X5_copy : Cond.instanceMethod yX5_copy ∈ wsL_law := in_r25 _ (List.mem_of_getElem? (i := 18) rfl)
theorem wd_se_X5_X5_copy : Cond.selects RX5 yX5_copy yX5_copy ∈ wsL_law := in_r25 _ (List.mem_of_getElem? (i := 19) rfl)
theorem wd_co_X5_copy : Cond.code yX5_copy cX5_copy 4 none ∈ wsL_law := in_r25 _ (List.mem_of_getElem? (i := 20) rfl)
theorem wd_ml_L_82 : Cond.methodLink RL 82 yX4_keep ∈ wsL_law := in_r25 _ (List.mem_of_getElem? (i := 21) rfl)
theorem wd_im_X4_keep : Cond.instanceMethod yX4_keep ∈ wsL_law := in_r25 _ (List.mem_of_getElem? (i := 22) rfl)
theorem wd_se_X4_X4_keep : Cond.selects RX4 yX4_keep yX4_keep ∈ wsL_law := in_r25 _ (List.mem_of_getElem? (i := 23) rfl)
theorem wd_co_X4_keep : Cond.code yX4_keep cX4_keep 2 (some .int) ∈ wsL_law := in_r26 _ (List.mem_of_getElem? (i := 0) rfl)
theorem wd_ml_X4_228 : Cond.methodLink RX4 228 yX4_isNoImage ∈ wsL_law := in_r26 _ (List.mem_of_getElem? (i := 1) rfl)
theorem wd_st_X4_isNoImage : Cond.static yX4_isNoImage ∈ wsL_law := in_r26 _ (List.mem_of_getElem? (i := 2) rfl)
theorem wd_co_X4_isNoImage : Cond.code yX4_isNoImage cX4_isNoImage 1 (some .boolean) ∈ wsL_law := in_r26 _ (List.mem_of_getElem? (i := 3) rfl)
theorem wd_ml_L_85 : Cond.methodLink RL 85 yX5_keep ∈ wsL_law := in_r26 _ (List.mem_of_getElem? (i := 4) rfl)
theorem wd_im_X5_keep : Cond.instanceMethod yX5_keep ∈ wsL_law := in_r26 _ (List.mem_of_getElem? (i := 5) rfl)
theorem wd_se_X5_X5_keep : Cond.selects RX5 yX5_keep yX5_keep ∈ wsL_law := in_r26 _ (List.mem_of_getElem? (i := 6) rfl)
theorem wd_co_X5_keep : Cond.code yX5_keep cX5_keep 2 (some .int) ∈ wsL_law := in_r26 _ (List.mem_of_getElem? (i := 7) rfl)
theorem wd_ml_L_86 : Cond.methodLink RL 86 yX4_goBack ∈ wsL_law := in_r26 _ (List.mem_of_getElem? (i := 8) rfl)
theorem wd_im_X4_goBack : Cond.instanceMethod yX4_goBack ∈ wsL_law := in_r26 _ (List.mem_of_getElem? (i := 9) rfl)
theorem wd_se_X4_X4_goBack : Cond.selects RX4 yX4_goBack yX4_goBack ∈ wsL_law := in_r26 _ (List.mem_of_getElem? (i := 10) rfl)
theorem wd_co_X4_goBack : Cond.code yX4_goBack cX4_goBack 2 (some .int) ∈ wsL_law := in_r26 _ (List.mem_of_getElem? (i := 11) rfl)
theorem wd_ml_L_89 : Cond.methodLink RL 89 yX5_goBack ∈ wsL_law := in_r26 _ (List.mem_of_getElem? (i := 12) rfl)
theorem wd_im_X5_goBack : Cond.instanceMethod yX5_goBack ∈ wsL_law := in_r26 _ (List.mem_of_getElem? (i := 13) rfl)
theorem wd_se_X5_X5_goBack : Cond.selects RX5 yX5_goBack yX5_goBack ∈ wsL_law := in_r26 _ (List.mem_of_getElem? (i := 14) rfl)
theorem wd_co_X5_goBack : Cond.code yX5_goBack cX5_goBack 2 (some .int) ∈ wsL_law := in_r26 _ (List.mem_of_getElem? (i := 15) rfl)
end
section
/-! the system's cells as ONE picture: 162 cells of a fixed shape; what moves is numbers (Mem) -/
abbrev Mem : Type := (Nat → Nat → Int32) × Int64
abbrev Shp : Type := (Bool × Nat) ⊕ ((Bool × Nat × (Nat → Nat)) ⊕ (Nat × List (Nat ⊕ Bool)))
def rd (M : Mem) (i k : Nat) : Int32 := M.1 i k
def wr (M : Mem) (i k : Nat) (v : Int32) : Mem := (fun j => if j = i then upd (M.1 i) k v else M.1 j, M.2)
def rdJ (M : Mem) : Int64 := M.2
def wrJ (M : Mem) (v : Int64) : Mem := (M.1, v)
def cpM (M : Mem) (i0 i1 : Nat) (sp dp n : Nat) : Mem := (fun j => if j = i1 then va_cpy (M.1 i0) (M.1 i1) sp dp n else M.1 j, M.2)
-- shapes
def iarr (n : Nat) : Shp := .inl (false, n)
def zarr (n : Nat) : Shp := .inl (true, n)
def rarr (b : Bool) (n : Nat) (f : Nat → Nat) : Shp := .inr (.inl (b, n, f))
def objS (ci : Nat) (fl : List (Nat ⊕ Bool)) : Shp := .inr (.inr (ci, fl))
def shCh (c j : Nat) : Shp := if j = 0 then objS 0 [.inl (c + 1), .inl (c + 2), .inl (c + 3), .inl (c + 4), .inl (c + 5), .inl (c + 6), .inl (c + 7), .inr false] else iarr 12
def shWt (e j : Nat) : Shp := if j = 0 then objS 2 [.inl (e + 1), .inl (e + 2), .inl (e + 3), .inr false] else iarr 30
def shWo (w j : Nat) : Shp := if j = 0 then objS 3 [.inl (w + 1), .inl (w + 12), .inl (w + 9), .inl (w + 10), .inl (w + 11), .inr false, .inr false, .inr false, .inr false, .inr false, .inr false, .inr false]
  else if j < 9 then shCh (w + 1) (j - 1) else if j < 12 then iarr 6 else if j = 12 then rarr false 6 (fun p => w + 12 + 1 + 4 * p)
  else shWt (w + 12 + 1 + 4 * ((j - 13) / 4)) ((j - 13) % 4)
def shp (i : Nat) : Shp :=
  if i = 0 then objS 4 [.inl 1, .inl 38, .inl 75, .inl 150, .inl 151, .inl 156]
  else if i < 75 then shWo (1 + 37 * ((i - 1) / 37)) ((i - 1) % 37)
  else if i = 75 then rarr true 2 (fun p => 75 + 1 + 37 * p)
  else if i < 150 then shWo (76 + 37 * ((i - 76) / 37)) ((i - 76) % 37)
  else if i = 150 then zarr 2
  else if i = 151 then objS 1 [.inl 152, .inl 153, .inl 154, .inl 155, .inr false]
  else if i < 156 then iarr 200
  else if i = 156 then iarr 6
  else if i = 157 then objS 5 [.inl 158, .inl 159, .inr false, .inl 160, .inr true, .inl 161]
  else if i = 158 then iarr 1048
  else if i = 159 then zarr 2
  else if i = 160 then iarr 800
  else if i = 161 then iarr 6
  else zarr 0
theorem shp_lt {i : Nat} (h : shp i ≠ zarr 0) : i < 162 := by
  rcases Nat.lt_or_ge i 162 with q | q
  · exact q
  · exact absurd (by unfold shp; rw [if_neg (by omega), if_neg (by omega), if_neg (by omega), if_neg (by omega), if_neg (by omega), if_neg (by omega), if_neg (by omega), if_neg (by omega), if_neg (by omega), if_neg (by omega), if_neg (by omega), if_neg (by omega), if_neg (by omega)]) h
def K2 (e : Nat) : Prop := shp e = objS 2 [.inl (e + 1), .inl (e + 2), .inl (e + 3), .inr false] ∧ shp (e + 1) = iarr 30 ∧ shp (e + 2) = iarr 30 ∧ shp (e + 3) = iarr 30
def K0 (c : Nat) : Prop := shp c = objS 0 [.inl (c + 1), .inl (c + 2), .inl (c + 3), .inl (c + 4), .inl (c + 5), .inl (c + 6), .inl (c + 7), .inr false] ∧ shp (c + 1) = iarr 12 ∧ shp (c + 2) = iarr 12 ∧ shp (c + 3) = iarr 12 ∧ shp (c + 4) = iarr 12 ∧ shp (c + 5) = iarr 12 ∧ shp (c + 6) = iarr 12 ∧ shp (c + 7) = iarr 12
def K3 (w : Nat) : Prop := shp w = objS 3 [.inl (w + 1), .inl (w + 12), .inl (w + 9), .inl (w + 10), .inl (w + 11), .inr false, .inr false, .inr false, .inr false, .inr false, .inr false, .inr false] ∧ K0 (w + 1) ∧ shp (w + 9) = iarr 6 ∧ shp (w + 10) = iarr 6 ∧ shp (w + 11) = iarr 6 ∧ shp (w + 12) = rarr false 6 (fun p => w + 12 + 1 + 4 * p) ∧ ∀ p, p < 6 → K2 (w + 12 + 1 + 4 * p)
def K1 (o : Nat) : Prop := shp o = objS 1 [.inl (o + 1), .inl (o + 2), .inl (o + 3), .inl (o + 4), .inr false] ∧ shp (o + 1) = iarr 200 ∧ shp (o + 2) = iarr 200 ∧ shp (o + 3) = iarr 200 ∧ shp (o + 4) = iarr 200
def K4 (t : Nat) : Prop := shp t = objS 4 [.inl (t + 1), .inl (t + 38), .inl (t + 75), .inl (t + 150), .inl (t + 151), .inl (t + 156)] ∧ K3 (t + 1) ∧ K3 (t + 38) ∧ shp (t + 75) = rarr true 2 (fun p => t + 75 + 1 + 37 * p) ∧ (∀ p, p < 2 → K3 (t + 75 + 1 + 37 * p)) ∧ shp (t + 150) = zarr 2 ∧ K1 (t + 151) ∧ shp (t + 156) = iarr 6
def K5 (t : Nat) : Prop := shp t = objS 5 [.inl (t + 1), .inl (t + 2), .inr false, .inl (t + 3), .inr true, .inl (t + 4)] ∧ shp (t + 1) = iarr 1048 ∧ shp (t + 2) = zarr 2 ∧ shp (t + 3) = iarr 800 ∧ shp (t + 4) = iarr 6 ∧ t = 157
-- the picture
def fval (a : Nat → Nat) (M : Mem) (i k : Nat) (o : Nat ⊕ Bool) : Value := match o with
  | .inl j => .ref (a j)
  | .inr false => .int (rd M i k)
  | .inr true => .long (rdJ M)
def contS (a : Nat → Nat) (cy : Nat → ClassId) (M : Mem) (i : Nat) (h : Shp) : va_E := match h with
  | .inl (false, n) => .inl (cy 0, n, .inl (M.1 i))
  | .inl (true, n) => .inl (cy 1, n, .inl (M.1 i))
  | .inr (.inl (false, n, f)) => .inl (cy 2, n, .inr (.inr (.inr (.inr (fun j => some (a (f j)))))))
  | .inr (.inl (true, n, f)) => .inl (cy 3, n, .inr (.inr (.inr (.inr (fun j => some (a (f j)))))))
  | .inr (.inr (ci, fl)) => .inr (ci, fl.mapIdx (fun k o => fval a M i k o))
def cont (a : Nat → Nat) (cy : Nat → ClassId) (M : Mem) (i : Nat) : va_E := contS a cy M i (shp i)
def wsM (a : Nat → Nat) (cy : Nat → ClassId) (M : Mem) : va_W := (List.range 162).map (fun i => (a i, cont a cy M i))
def tysU (cy : Nat → ClassId) : List (ClassId × FieldType) := [(cy 0, .int), (cy 1, .boolean), (cy 2, .object "SafeParts$Waiting"), (cy 3, .object "SafeParts$World")]
def AU (a : Nat → Nat) : Nat → Prop := fun q => ∃ i, i < 162 ∧ q = a i
def injU (a : Nat → Nat) : Prop := ∀ i j, i < 162 → j < 162 → a i = a j → i = j
theorem wsM_at {a : Nat → Nat} {cy : Nat → ClassId} {M : Mem} {i : Nat} (h : i < 162) : (wsM a cy M)[i]? = some (a i, cont a cy M i) := by
  simp [wsM, h]
theorem wsM_inv {a : Nat → Nat} {cy : Nat → ClassId} {M : Mem} {i : Nat} {q : Nat × va_E} (h : (wsM a cy M)[i]? = some q) : i < 162 ∧ q = (a i, cont a cy M i) := by
  have h1 : i < (wsM a cy M).length := (List.getElem?_eq_some_iff.mp h).1
  have h2 : i < 162 := by simpa [wsM] using h1
  refine ⟨h2, ?_⟩
  rw [wsM_at h2] at h
  exact (Option.some.inj h).symm
theorem wsM_D {a : Nat → Nat} {cy : Nat → ClassId} (hi : injU a) (M : Mem) : va_D (AU a) (wsM a cy M) := by
  refine ⟨fun i j p q h1 h2 h3 => ?_, fun k q h => ?_⟩
  · obtain ⟨l1, e1⟩ := wsM_inv h1
    obtain ⟨l2, e2⟩ := wsM_inv h2
    rw [e1, e2] at h3
    exact hi i j l1 l2 h3
  · obtain ⟨l1, e1⟩ := wsM_inv h
    exact ⟨k, l1, by rw [e1]⟩
theorem wsM_set {a : Nat → Nat} {cy : Nat → ClassId} {M M1 : Mem} {i : Nat} {e : va_E} (he : cont a cy M1 i = e) (ho : ∀ j, j < 162 → j ≠ i → cont a cy M1 j = cont a cy M j) : (wsM a cy M).set i (a i, e) = wsM a cy M1 := by
  apply List.ext_getElem?
  intro k
  rw [List.getElem?_set]
  by_cases hk : i = k
  · subst hk
    rw [if_pos rfl]
    by_cases hl : i < 162
    · rw [if_pos (by simpa [wsM] using hl), wsM_at hl, he]
    · rw [if_neg (by simpa [wsM] using hl)]
      simp [wsM, hl]
  · rw [if_neg hk]
    by_cases hl : k < 162
    · rw [wsM_at hl, wsM_at hl, ho k hl (Ne.symm hk)]
    · simp [wsM, hl]
theorem cont_of {a : Nat → Nat} {cy : Nat → ClassId} {M : Mem} {i : Nat} {h : Shp} (hs : shp i = h) : cont a cy M i = contS a cy M i h := by rw [cont, hs]
theorem contS_ext {a : Nat → Nat} {cy : Nat → ClassId} {M M1 : Mem} {i : Nat} {h : Shp} (h1 : M1.1 i = M.1 i) (h2 : M1.2 = M.2) : contS a cy M1 i h = contS a cy M i h := by
  have hf : ∀ k o, fval a M1 i k o = fval a M i k o := fun k o => by
    unfold fval rd rdJ
    rw [h1, h2]
  rcases h with ⟨_ | _, n⟩ | ⟨_ | _, n, f⟩ | ⟨ci, fl⟩ <;> simp only [contS, h1, hf]
theorem wr_ne {M : Mem} {i j k : Nat} {v : Int32} (h : j ≠ i) : (wr M i k v).1 j = M.1 j := by simp [wr, h]
theorem wr_at {M : Mem} {i k : Nat} {v : Int32} : (wr M i k v).1 i = upd (M.1 i) k v := by simp [wr]
theorem wsM_wrA {a : Nat → Nat} {cy : Nat → ClassId} {M : Mem} {i n k : Nat} {v : Int32} (hs : shp i = iarr n) : (wsM a cy M).set i (a i, .inl (cy 0, n, .inl (upd (M.1 i) k v))) = wsM a cy (wr M i k v) :=
  wsM_set (by rw [cont_of hs]; show (Sum.inl (cy 0, n, .inl ((wr M i k v).1 i)) : va_E) = _; rw [wr_at]) (fun j _ hj => contS_ext (wr_ne hj) rfl)
theorem wsM_wrZ {a : Nat → Nat} {cy : Nat → ClassId} {M : Mem} {i n k : Nat} {v : Int32} (hs : shp i = zarr n) : (wsM a cy M).set i (a i, .inl (cy 1, n, .inl (upd (M.1 i) k v))) = wsM a cy (wr M i k v) :=
  wsM_set (by rw [cont_of hs]; show (Sum.inl (cy 1, n, .inl ((wr M i k v).1 i)) : va_E) = _; rw [wr_at]) (fun j _ hj => contS_ext (wr_ne hj) rfl)
theorem wsM_cp {a : Nat → Nat} {cy : Nat → ClassId} {M : Mem} {i0 i1 n sp dp k : Nat} (hs : shp i1 = iarr n) : (wsM a cy M).set i1 (a i1, .inl (cy 0, n, .inl (va_cpy (M.1 i0) (M.1 i1) sp dp k))) = wsM a cy (cpM M i0 i1 sp dp k) :=
  wsM_set (by rw [cont_of hs]; show (Sum.inl (cy 0, n, .inl ((cpM M i0 i1 sp dp k).1 i1)) : va_E) = _; simp [cpM]) (fun j _ hj => contS_ext (by simp [cpM, hj]) rfl)
theorem mapIdx_set {a : Nat → Nat} {M : Mem} {i k : Nat} {fl : List (Nat ⊕ Bool)} {v : Int32} (hk : fl[k]? = some (.inr false)) : (fl.mapIdx (fun k o => fval a M i k o)).set k (.int v) = fl.mapIdx (fun k' o => fval a (wr M i k v) i k' o) := by
  apply List.ext_getElem?
  intro q
  rw [List.getElem?_set, List.getElem?_mapIdx, List.getElem?_mapIdx]
  by_cases h : k = q
  · subst h
    have hl := (List.getElem?_eq_some_iff.mp hk).1
    rw [if_pos rfl, if_pos (by simpa using hl), hk]
    show _ = some (Value.int (rd (wr M i k v) i k))
    simp [rd, wr, upd]
  · rw [if_neg h]
    cases hq : fl[q]? with
    | none => rfl
    | some o =>
      rcases o with j | b
      · rfl
      · cases b with
        | true => rfl
        | false =>
          show some (Value.int (rd M i q)) = some (Value.int (rd (wr M i k v) i q))
          have : q ≠ k := fun e => h e.symm
          simp [rd, wr, upd, this]
theorem mapIdx_setJ {a : Nat → Nat} {M : Mem} {i k : Nat} {fl : List (Nat ⊕ Bool)} {v : Int64} (hk : fl[k]? = some (.inr true)) (hj : ∀ q, fl[q]? = some (.inr true) → q = k) : (fl.mapIdx (fun k o => fval a M i k o)).set k (.long v) = fl.mapIdx (fun k' o => fval a (wrJ M v) i k' o) := by
  apply List.ext_getElem?
  intro q
  rw [List.getElem?_set, List.getElem?_mapIdx, List.getElem?_mapIdx]
  by_cases h : k = q
  · subst h
    have hl := (List.getElem?_eq_some_iff.mp hk).1
    rw [if_pos rfl, if_pos (by simpa using hl), hk]
    rfl
  · rw [if_neg h]
    cases hq : fl[q]? with
    | none => rfl
    | some o =>
      rcases o with j | b
      · rfl
      · cases b with
        | true => exact absurd (hj q hq) (fun e => h e.symm)
        | false => rfl
def hasJ (h : Shp) : Bool := match h with
  | .inr (.inr (_, fl)) => fl.any (fun o => o == .inr true)
  | _ => false
theorem noJ : ∀ j, j < 162 → j ≠ 157 → hasJ (shp j) = false := by decide +kernel
theorem contS_J {a : Nat → Nat} {cy : Nat → ClassId} {M : Mem} {i : Nat} {h : Shp} {v : Int64} (hh : hasJ h = false) : contS a cy (wrJ M v) i h = contS a cy M i h := by
  rcases h with ⟨_ | _, n⟩ | ⟨_ | _, n, f⟩ | ⟨ci, fl⟩
  · rfl
  · rfl
  · rfl
  · rfl
  · show (Sum.inr (ci, fl.mapIdx (fun k o => fval a (wrJ M v) i k o)) : va_E) = .inr (ci, fl.mapIdx (fun k o => fval a M i k o))
    have : fl.mapIdx (fun k o => fval a (wrJ M v) i k o) = fl.mapIdx (fun k o => fval a M i k o) := by
      apply List.ext_getElem?
      intro q
      rw [List.getElem?_mapIdx, List.getElem?_mapIdx]
      cases hq : fl[q]? with
      | none => rfl
      | some o =>
        rcases o with j | b
        · rfl
        · cases b with
          | true =>
            have h1 : fl.any (fun o => o == .inr true) = false := hh
            have h2 := List.any_eq_false.mp h1 _ (List.mem_of_getElem? hq)
            exact absurd (show ((Sum.inr true : Nat ⊕ Bool) == Sum.inr true) = true by decide) h2
          | false => rfl
    rw [this]
theorem wsM_wrO {a : Nat → Nat} {cy : Nat → ClassId} {M : Mem} {i k ci : Nat} {fl : List (Nat ⊕ Bool)} {v : Int32} (hs : shp i = objS ci fl) (hk : fl[k]? = some (.inr false)) : (wsM a cy M).set i (a i, .inr (ci, (fl.mapIdx (fun k o => fval a M i k o)).set k (.int v))) = wsM a cy (wr M i k v) :=
  wsM_set (by rw [cont_of hs]; show (Sum.inr (ci, fl.mapIdx (fun k' o => fval a (wr M i k v) i k' o)) : va_E) = _; rw [mapIdx_set hk]) (fun j _ hj => contS_ext (wr_ne hj) rfl)
theorem wsM_wrJ {a : Nat → Nat} {cy : Nat → ClassId} {M : Mem} {i k ci : Nat} {fl : List (Nat ⊕ Bool)} {v : Int64} (h157 : i = 157) (hs : shp i = objS ci fl) (hk : fl[k]? = some (.inr true)) (hj : ∀ q, fl[q]? = some (.inr true) → q = k) : (wsM a cy M).set i (a i, .inr (ci, (fl.mapIdx (fun k o => fval a M i k o)).set k (.long v))) = wsM a cy (wrJ M v) :=
  wsM_set (by rw [cont_of hs]; show (Sum.inr (ci, fl.mapIdx (fun k' o => fval a (wrJ M v) i k' o)) : va_E) = _; rw [mapIdx_setJ hk hj]) (fun j hl hj => contS_J (noJ j hl (by rw [← h157]; exact hj)))
-- combinators of the decompiled methods
def nm {α β : Type} (x : α) (k : α → β) : β := k x
def ck {α : Type} (i : Int32) (n : Nat) (k : Option α) : Option α := if i < 0 ∨ n ≤ i.toNatClampNeg then none else k
def zk {α : Type} (x : Int32) (k : Option α) : Option α := if x = 0 ∨ x = 1 then k else none
def nz {α : Type} (x : Int32) (k : Option α) : Option α := if x = 0 then none else k
def nzl {α : Type} (x : Int64) (k : Option α) : Option α := if x = 0 then none else k
def bd {α β : Type} (x : Option α) (k : α → Option β) : Option β := match x with
  | none => none
  | some y => k y
def bd2 {α β γ : Type} (x : Option (α × β)) (k : α → β → Option γ) : Option γ := match x with
  | none => none
  | some (y, z) => k y z
def cpk {α : Type} (sp dp n : Int32) (n0 n1 : Nat) (k : Option α) : Option α := if sp < 0 ∨ dp < 0 ∨ n < 0 ∨ n0 < sp.toNatClampNeg + n.toNatClampNeg ∨ n1 < dp.toNatClampNeg + n.toNatClampNeg then none else k
theorem nm_of {α β : Type} {x e : α} {k : α → Option β} {o : β} (h : x = e) (hf : nm e k = some o) : k x = some o := by rw [h]; exact hf
theorem ck_some {α : Type} {i : Int32} {n : Nat} {k : Option α} {o : α} (hf : ck i n k = some o) : vp_in i n ∧ k = some o := by
  unfold ck at hf
  by_cases h : i < 0 ∨ n ≤ i.toNatClampNeg
  · rw [if_pos h] at hf
    cases hf
  · rw [if_neg h] at hf
    exact ⟨h, hf⟩
theorem zk_some {α : Type} {x : Int32} {k : Option α} {o : α} (hf : zk x k = some o) : (x = 0 ∨ x = 1) ∧ k = some o := by
  unfold zk at hf
  by_cases h : x = 0 ∨ x = 1
  · rw [if_pos h] at hf
    exact ⟨h, hf⟩
  · rw [if_neg h] at hf
    cases hf
theorem nz_some {α : Type} {x : Int32} {k : Option α} {o : α} (hf : nz x k = some o) : ¬ x = 0 ∧ k = some o := by
  unfold nz at hf
  by_cases h : x = 0
  · rw [if_pos h] at hf
    cases hf
  · rw [if_neg h] at hf
    exact ⟨h, hf⟩
theorem nzl_some {α : Type} {x : Int64} {k : Option α} {o : α} (hf : nzl x k = some o) : ¬ x = 0 ∧ k = some o := by
  unfold nzl at hf
  by_cases h : x = 0
  · rw [if_pos h] at hf
    cases hf
  · rw [if_neg h] at hf
    exact ⟨h, hf⟩
theorem bd_some {α β : Type} {x : Option α} {k : α → Option β} {o : β} (hf : bd x k = some o) : ∃ y, x = some y ∧ k y = some o := by
  cases x with
  | none => cases hf
  | some y => exact ⟨y, rfl, hf⟩
theorem bd2_some {α β γ : Type} {x : Option (α × β)} {k : α → β → Option γ} {o : γ} (hf : bd2 x k = some o) : ∃ y z, x = some (y, z) ∧ k y z = some o := by
  cases x with
  | none => cases hf
  | some y => exact ⟨y.1, y.2, rfl, hf⟩
theorem cpk_some {α : Type} {sp dp n : Int32} {n0 n1 : Nat} {k : Option α} {o : α} (hf : cpk sp dp n n0 n1 k = some o) : (¬ sp < 0 ∧ ¬ dp < 0 ∧ ¬ n < 0 ∧ sp.toNatClampNeg + n.toNatClampNeg ≤ n0 ∧ dp.toNatClampNeg + n.toNatClampNeg ≤ n1) ∧ k = some o := by
  unfold cpk at hf
  by_cases h : sp < 0 ∨ dp < 0 ∨ n < 0 ∨ n0 < sp.toNatClampNeg + n.toNatClampNeg ∨ n1 < dp.toNatClampNeg + n.toNatClampNeg
  · rw [if_pos h] at hf
    cases hf
  · rw [if_neg h] at hf
    refine ⟨⟨fun q => h (Or.inl q), fun q => h (Or.inr (Or.inl q)), fun q => h (Or.inr (Or.inr (Or.inl q))), ?_, ?_⟩, hf⟩
    · exact Nat.not_lt.mp fun q => h (Or.inr (Or.inr (Or.inr (Or.inl q))))
    · exact Nat.not_lt.mp fun q => h (Or.inr (Or.inr (Or.inr (Or.inr q))))
theorem itep {α : Type} {c : Prop} {ins : Decidable c} {A B : Option α} {o : α} (h : c) (hf : (if c then A else B) = some o) : A = some o := by rw [if_pos h] at hf; exact hf
theorem iten {α : Type} {c : Prop} {ins : Decidable c} {A B : Option α} {o : α} (h : ¬ c) (hf : (if c then A else B) = some o) : B = some o := by rw [if_neg h] at hf; exact hf
end
section
/-! the kit's rows, over the ONE picture -/
def XU (dC : Nat → ClassId) (dI : Nat → Nat → Nat) (cy : Nat → ClassId) (a : Nat → Nat) (p : Program) (s : State) (m : MethodId) (c : Code) (args : Array Value) (meth : Method) (cc : ByteArray) (nL : Nat) (own : String) (ret : Option FieldType) : Prop :=
  CallFix p m c cc nL s args wsL_law own ∧ va_K (dC, dI) vwCl (tysU cy) s ∧ injU a ∧ meth.sig.returnType = ret ∧ meth.locks = false
def GU (dC : Nat → ClassId) (dI : Nat → Nat → Nat) (cy : Nat → ClassId) (a : Nat → Nat) (H0 : Heap) (M : Mem) (H : Heap) (locs : List Loc) : Prop :=
  va_P (dC, dI) vwCl (wsM a cy M) H ∧ va_S (AU a) H0 H locs
def BU (dC : Nat → ClassId) (dI : Nat → Nat → Nat) (cy : Nat → ClassId) (a : Nat → Nat) (u : Mem) (t : State) : Prop := va_P (dC, dI) vwCl (wsM a cy u) t.heap
abbrev QUi (dC : Nat → ClassId) (dI : Nat → Nat → Nat) (cy : Nat → ClassId) (a : Nat → Nat) (r : Int32) (M : Mem) : Array Value → State → Outcome → State → Prop := va_Qi (fun r' u => r' = r ∧ u = M) (BU dC dI cy a) (AU a)
abbrev QUl (dC : Nat → ClassId) (dI : Nat → Nat → Nat) (cy : Nat → ClassId) (a : Nat → Nat) (r : Int64) (M : Mem) : Array Value → State → Outcome → State → Prop := va_Ql (fun r' u => r' = r ∧ u = M) (BU dC dI cy a) (AU a)
abbrev QUv (dC : Nat → ClassId) (dI : Nat → Nat → Nat) (cy : Nat → ClassId) (a : Nat → Nat) (M : Mem) : Array Value → State → Outcome → State → Prop := va_Qv (fun u => u = M) (BU dC dI cy a) (AU a)
abbrev PU (dC : Nat → ClassId) (dI : Nat → Nat → Nat) (cy : Nat → ClassId) (a : Nat → Nat) (vs : List Value) (M : Mem) : Array Value → State → Prop := va_Pc vs (fun U => va_P (dC, dI) vwCl (wsM a cy M) U.heap ∧ va_K (dC, dI) vwCl (tysU cy) U)
theorem PU_blind {dC : Nat → ClassId} {dI : Nat → Nat → Nat} {cy : Nat → ClassId} {a : Nat → Nat} {vs : List Value} {M : Mem} : FrameBlind (PU dC dI cy a vs M) := fun v U g mk q => ⟨q.1, q.2.1, va_K.moved (u := U) (U := U.calling g mk v) (Vm.Alike.refl U.vm) q.2.2⟩
theorem gself : GoodIn wsL_law wsL_law := goodIn_sub (fun _ h => h) (by decide +kernel)
abbrev wsU (y : MethodName) (cc : ByteArray) (nL : Nat) (ret : Option FieldType) : List Cond := Cond.code y cc nL ret :: wsL_law
theorem gU {y : MethodName} {cc : ByteArray} {nL : Nat} {ret : Option FieldType} (h : Cond.code y cc nL ret ∈ wsL_law) : GoodIn wsL_law (wsU y cc nL ret) := fun w hw => (List.mem_cons.mp hw).elim (fun e => by rw [e]; exact gself _ h) (gself w)
theorem gV {y : MethodName} {cc : ByteArray} {nL : Nat} {ret : Option FieldType} {own C : String} {idx : Nat} (h1 : Cond.methodLink own idx y ∈ wsL_law) (h2 : Cond.instanceMethod y ∈ wsL_law) (h3 : Cond.selects C y y ∈ wsL_law) (h4 : Cond.initialized C ∈ wsL_law) (h5 : Cond.code y cc nL ret ∈ wsL_law) : GoodIn wsL_law (wsV own idx C y (wsU y cc nL ret)) := by
  refine goodIn_app (fun w hw => ?_) (gU h5)
  rcases List.mem_cons.mp hw with e | hw
  · rw [e]; exact gself _ h1
  rcases List.mem_cons.mp hw with e | hw
  · rw [e]; exact gself _ h2
  rcases List.mem_cons.mp hw with e | hw
  · rw [e]; exact gself _ h3
  rcases List.mem_cons.mp hw with e | hw
  · rw [e]; exact gself _ h4
  · cases hw
theorem gS {y : MethodName} {cc : ByteArray} {nL : Nat} {ret : Option FieldType} {own : String} {idx : Nat} (h1 : Cond.methodLink own idx y ∈ wsL_law) (h2 : Cond.static y ∈ wsL_law) (h4 : Cond.initialized own ∈ wsL_law) (h5 : Cond.code y cc nL ret ∈ wsL_law) : GoodIn wsL_law (wsS own idx y (wsU y cc nL ret)) := by
  refine goodIn_app (fun w hw => ?_) (gU h5)
  rcases List.mem_cons.mp hw with e | hw
  · rw [e]; exact gself _ h1
  rcases List.mem_cons.mp hw with e | hw
  · rw [e]; exact gself _ h2
  rcases List.mem_cons.mp hw with e | hw
  · rw [e]; exact gself _ h4
  · cases hw
section MW
variable {p : Program} {l : Launch} {e : Env} {R : Room} {s : State} {m : MethodId} {args : Array Value} {below : List Frame} {meth : Method} {c : Code} {H : Heap} {locs : List Loc} {cells slots : Nat} {Q : State → Prop} {dC : Nat → ClassId} {dI : Nat → Nat → Nat} {cy : Nat → ClassId} {a : Nat → Nat} {cc : ByteArray} {nL : Nat} {own : String} {ret : Option FieldType} {H0 : Heap} {M : Mem} {pc : Nat} {ls : Array Slot} {rest : List Value}
theorem fl_at {M : Mem} {a : Nat → Nat} {i k : Nat} {fl : List (Nat ⊕ Bool)} {o : Nat ⊕ Bool} (hk : fl[k]? = some o) : (fl.mapIdx (fun k o => fval a M i k o))[k]? = some (fval a M i k o) := by
  rw [List.getElem?_mapIdx, hk]; rfl
theorem obj_lt {i ci : Nat} {fl : List (Nat ⊕ Bool)} (hs : shp i = objS ci fl) : i < 162 := shp_lt (by rw [hs]; intro h; cases h)
theorem iarr_lt {i n : Nat} (hs : shp i = iarr n) : i < 162 := shp_lt (by rw [hs]; intro h; cases h)
theorem rarr_lt {i n : Nat} {b : Bool} {f : Nat → Nat} (hs : shp i = rarr b n f) : i < 162 := shp_lt (by rw [hs]; intro h; cases h)
theorem zarr_lt {i n : Nat} (hs : shp i = zarr n) (hn : n ≠ 0) : i < 162 := shp_lt (by rw [hs]; intro h; exact hn (congrArg Prod.snd (Sum.inl.inj h)))
theorem at_obj {i ci : Nat} {fl : List (Nat ⊕ Bool)} (hs : shp i = objS ci fl) : (wsM a cy M)[i]? = some (a i, .inr (ci, fl.mapIdx (fun k o => fval a M i k o))) := by
  rw [wsM_at (obj_lt hs), cont_of hs]; rfl
theorem at_iarr {i n : Nat} (hs : shp i = iarr n) : (wsM a cy M)[i]? = some (a i, .inl (cy 0, n, .inl (M.1 i))) := by
  rw [wsM_at (iarr_lt hs), cont_of hs]; rfl
theorem at_zarr {i n : Nat} (hs : shp i = zarr n) (hn : n ≠ 0) : (wsM a cy M)[i]? = some (a i, .inl (cy 1, n, .inl (M.1 i))) := by
  rw [wsM_at (zarr_lt hs hn), cont_of hs]; rfl
theorem at_rarr0 {i n : Nat} {f : Nat → Nat} (hs : shp i = rarr false n f) : (wsM a cy M)[i]? = some (a i, .inl (cy 2, n, .inr (.inr (.inr (.inr (fun j => some (a (f j)))))))) := by
  rw [wsM_at (rarr_lt hs), cont_of hs]; rfl
theorem at_rarr1 {i n : Nat} {f : Nat → Nat} (hs : shp i = rarr true n f) : (wsM a cy M)[i]? = some (a i, .inl (cy 3, n, .inr (.inr (.inr (.inr (fun j => some (a (f j)))))))) := by
  rw [wsM_at (rarr_lt hs), cont_of hs]; rfl
theorem mw_get (X : XU dC dI cy a p s m c args meth cc nL own ret) (hG : GU dC dI cy a H0 M H locs) {i ci k N index : Nat} {fl : List (Nat ⊕ Bool)} {C : String} {T : u_T} {o : Nat ⊕ Bool} (hs : shp i = objS ci fl) (hk : fl[k]? = some o) (hc : vwCl[ci]? = some (C, T, N)) (hin : ∀ w ∈ u_ws C T N, w ∈ wsL_law) (hkN : k < N) (hl : Cond.fieldLink own index (T k).1 (T k).2.1 (T k).2.2.1 ∈ wsL_law) (hdg : decode cc pc = .ok (.getfield index, 3))
    (kk : W p l e R s m args below meth c H locs cells slots Q (F0 m (pc + 3) ls (fval a M i k o :: rest))) : W p l e R s m args below meth c H locs cells slots Q (F0 m pc ls (.ref (a i) :: rest)) :=
  va_get (D := (dC, dI)) X.1.1 X.1.2.1 X.1.2.2.2.2 hin X.1.2.2.2.1 X.2.1 hG.1 i (at_obj hs) hc k hkN (X.1.2.2.2.2 _ hl) (fun _ h9 => h9) (fl_at hk) hdg kk
theorem mw_put (X : XU dC dI cy a p s m c args meth cc nL own ret) (hG : GU dC dI cy a H0 M H locs) {i ci k N index : Nat} {fl : List (Nat ⊕ Bool)} {C : String} {T : u_T} {v : Int32} {ty : Nat → FieldType} (hty : ∀ k, k < N → parseFieldDescriptor (T k).2.2.1 = some (ty k)) (hnm : ∀ a, a < N → ∀ b, b < N → a ≠ b → (T a).2.1 ≠ (T b).2.1) (hs : shp i = objS ci fl) (hk : fl[k]? = some (.inr false)) (hc : vwCl[ci]? = some (C, T, N)) (hin : ∀ w ∈ u_ws C T N, w ∈ wsL_law) (hkN : k < N) (hl : Cond.fieldLink own index (T k).1 (T k).2.1 (T k).2.2.1 ∈ wsL_law) (hfin : (T k).2.2.2 = false) (hd : parseFieldDescriptor (T k).2.2.1 = some .int) (hdg : decode cc pc = .ok (.putfield index, 3))
    (kk : ∀ (M1 : Mem) (H1 : Heap) (locs1 : List Loc), M1 = wr M i k v → GU dC dI cy a H0 M1 H1 locs1 → W p l e R s m args below meth c H1 locs1 cells slots Q (F0 m (pc + 3) ls rest)) : W p l e R s m args below meth c H locs cells slots Q (F0 m pc ls (.int v :: .ref (a i) :: rest)) := by
  refine va_put (D := (dC, dI)) (ty := .int) X.1.1 X.1.2.1 X.1.2.2.2.2 hin ty hty hnm X.1.2.2.2.1 X.2.1 hG.1 (wsM_D X.2.2.1 M) hG.2 i (at_obj hs) hc k hkN (X.1.2.2.2.2 _ hl) (fun _ h9 => h9) hfin hd rfl rfl (by simpa using (List.getElem?_eq_some_iff.mp hk).1) hdg (fun H1 locs1 hP _ hS => ?_)
  rw [wsM_wrO hs hk] at hP
  exact kk _ H1 locs1 rfl ⟨hP, hS⟩
theorem mw_putJ (X : XU dC dI cy a p s m c args meth cc nL own ret) (hG : GU dC dI cy a H0 M H locs) {i ci k N index : Nat} {fl : List (Nat ⊕ Bool)} {C : String} {T : u_T} {v : Int64} {ty : Nat → FieldType} (hty : ∀ k, k < N → parseFieldDescriptor (T k).2.2.1 = some (ty k)) (hnm : ∀ a, a < N → ∀ b, b < N → a ≠ b → (T a).2.1 ≠ (T b).2.1) (h157 : i = 157) (hs : shp i = objS ci fl) (hk : fl[k]? = some (.inr true)) (hj : ∀ q, fl[q]? = some (.inr true) → q = k) (hc : vwCl[ci]? = some (C, T, N)) (hin : ∀ w ∈ u_ws C T N, w ∈ wsL_law) (hkN : k < N) (hl : Cond.fieldLink own index (T k).1 (T k).2.1 (T k).2.2.1 ∈ wsL_law) (hfin : (T k).2.2.2 = false) (hd : parseFieldDescriptor (T k).2.2.1 = some .long) (hdg : decode cc pc = .ok (.putfield index, 3))
    (kk : ∀ (M1 : Mem) (H1 : Heap) (locs1 : List Loc), M1 = wrJ M v → GU dC dI cy a H0 M1 H1 locs1 → W p l e R s m args below meth c H1 locs1 cells slots Q (F0 m (pc + 3) ls rest)) : W p l e R s m args below meth c H locs cells slots Q (F0 m pc ls (.long v :: .ref (a i) :: rest)) := by
  refine va_put (D := (dC, dI)) (ty := .long) X.1.1 X.1.2.1 X.1.2.2.2.2 hin ty hty hnm X.1.2.2.2.1 X.2.1 hG.1 (wsM_D X.2.2.1 M) hG.2 i (at_obj hs) hc k hkN (X.1.2.2.2.2 _ hl) (fun _ h9 => h9) hfin hd rfl rfl (by simpa using (List.getElem?_eq_some_iff.mp hk).1) hdg (fun H1 locs1 hP _ hS => ?_)
  rw [wsM_wrJ h157 hs hk hj] at hP
  exact kk _ H1 locs1 rfl ⟨hP, hS⟩
theorem mw_iald (X : XU dC dI cy a p s m c args meth cc nL own ret) (hG : GU dC dI cy a H0 M H locs) {i n : Nat} {x : Int32} (hs : shp i = iarr n) (hin : vp_in x n) (hdg : decode cc pc = .ok (.iaload, 1))
    (kk : W p l e R s m args below meth c H locs cells slots Q (F0 m (pc + 1) ls (.int (rd M i x.toNatClampNeg) :: rest))) : W p l e R s m args below meth c H locs cells slots Q (F0 m pc ls (.int x :: .ref (a i) :: rest)) :=
  va_iald (D := (dC, dI)) X.1.1 X.1.2.1 X.2.1 hG.1 i 0 (at_iarr hs) rfl hin hdg kk
theorem mw_zald (X : XU dC dI cy a p s m c args meth cc nL own ret) (hG : GU dC dI cy a H0 M H locs) {i n : Nat} {x : Int32} (hs : shp i = zarr n) (hn : n ≠ 0) (hin : vp_in x n) (hdg : decode cc pc = .ok (.baload, 1))
    (kk : W p l e R s m args below meth c H locs cells slots Q (F0 m (pc + 1) ls (.int (rd M i x.toNatClampNeg) :: rest))) : W p l e R s m args below meth c H locs cells slots Q (F0 m pc ls (.int x :: .ref (a i) :: rest)) :=
  va_zald (D := (dC, dI)) X.1.1 X.1.2.1 X.2.1 hG.1 i 1 (at_zarr hs hn) rfl hin hdg kk
theorem mw_iast (X : XU dC dI cy a p s m c args meth cc nL own ret) (hG : GU dC dI cy a H0 M H locs) {i n : Nat} {x v : Int32} (hs : shp i = iarr n) (hin : vp_in x n) (hdg : decode cc pc = .ok (.iastore, 1))
    (kk : ∀ (M1 : Mem) (H1 : Heap) (locs1 : List Loc), M1 = wr M i x.toNatClampNeg v → GU dC dI cy a H0 M1 H1 locs1 → W p l e R s m args below meth c H1 locs1 cells slots Q (F0 m (pc + 1) ls rest)) : W p l e R s m args below meth c H locs cells slots Q (F0 m pc ls (.int v :: .int x :: .ref (a i) :: rest)) := by
  refine va_iast (D := (dC, dI)) X.1.1 X.1.2.1 X.2.1 hG.1 (wsM_D X.2.2.1 M) hG.2 i 0 (at_iarr hs) rfl hin hdg (fun H1 locs1 hP _ hS => ?_)
  rw [wsM_wrA hs] at hP
  exact kk _ H1 locs1 rfl ⟨hP, hS⟩
theorem mw_zast (X : XU dC dI cy a p s m c args meth cc nL own ret) (hG : GU dC dI cy a H0 M H locs) {i n : Nat} {x v : Int32} (hs : shp i = zarr n) (hn : n ≠ 0) (hv : vp_nar .boolean v = v) (hin : vp_in x n) (hdg : decode cc pc = .ok (.bastore, 1))
    (kk : ∀ (M1 : Mem) (H1 : Heap) (locs1 : List Loc), M1 = wr M i x.toNatClampNeg v → GU dC dI cy a H0 M1 H1 locs1 → W p l e R s m args below meth c H1 locs1 cells slots Q (F0 m (pc + 1) ls rest)) : W p l e R s m args below meth c H locs cells slots Q (F0 m pc ls (.int v :: .int x :: .ref (a i) :: rest)) := by
  refine va_zast (D := (dC, dI)) X.1.1 X.1.2.1 X.2.1 hG.1 (wsM_D X.2.2.1 M) hG.2 i 1 (at_zarr hs hn) rfl hin hdg (fun H1 locs1 hP _ hS => ?_)
  rw [hv, wsM_wrZ hs] at hP
  exact kk _ H1 locs1 rfl ⟨hP, hS⟩
theorem mw_aald0 (X : XU dC dI cy a p s m c args meth cc nL own ret) (hG : GU dC dI cy a H0 M H locs) {i n : Nat} {f : Nat → Nat} {x : Int32} (hs : shp i = rarr false n f) (hin : vp_in x n) (hdg : decode cc pc = .ok (.aaload, 1))
    (kk : W p l e R s m args below meth c H locs cells slots Q (F0 m (pc + 1) ls (.ref (a (f x.toNatClampNeg)) :: rest))) : W p l e R s m args below meth c H locs cells slots Q (F0 m pc ls (.int x :: .ref (a i) :: rest)) :=
  va_aldq (D := (dC, dI)) X.1.1 X.1.2.1 X.2.1 hG.1 i 2 (at_rarr0 hs) rfl hin hdg kk
theorem mw_aald1 (X : XU dC dI cy a p s m c args meth cc nL own ret) (hG : GU dC dI cy a H0 M H locs) {i n : Nat} {f : Nat → Nat} {x : Int32} (hs : shp i = rarr true n f) (hin : vp_in x n) (hdg : decode cc pc = .ok (.aaload, 1))
    (kk : W p l e R s m args below meth c H locs cells slots Q (F0 m (pc + 1) ls (.ref (a (f x.toNatClampNeg)) :: rest))) : W p l e R s m args below meth c H locs cells slots Q (F0 m pc ls (.int x :: .ref (a i) :: rest)) :=
  va_aldq (D := (dC, dI)) X.1.1 X.1.2.1 X.2.1 hG.1 i 3 (at_rarr1 hs) rfl hin hdg kk
theorem mw_cp (X : XU dC dI cy a p s m c args meth cc nL own ret) (hG : GU dC dI cy a H0 M H locs) (hsz : ls.size = nL) {i0 i1 n0 n1 index : Nat} {sp dp n : Int32} (hs0 : shp i0 = iarr n0) (hs1 : shp i1 = iarr n1) (hg : ¬ sp < 0 ∧ ¬ dp < 0 ∧ ¬ n < 0 ∧ sp.toNatClampNeg + n.toNatClampNeg ≤ n0 ∧ dp.toNatClampNeg + n.toNatClampNeg ≤ n1) (hl : Cond.methodLink own index arraycopyName ∈ wsL_law) (hR : 1 ≤ R.frames ∧ (rest.map fun v => v.category).sum + (nativeFrameWords "java/lang/System" "arraycopy" 5 + 11) ≤ R.locals) (h2 : Cond.native arraycopyName ∈ wsL_law) (h3 : Cond.static arraycopyName ∈ wsL_law) (h4 : Cond.initialized "java/lang/System" ∈ wsL_law) (hdg : decode cc pc = .ok (.invokestatic index, 3))
    (kk : ∀ (M1 : Mem) (H1 : Heap) (locs1 : List Loc), M1 = cpM M i0 i1 sp.toNatClampNeg dp.toNatClampNeg n.toNatClampNeg → GU dC dI cy a H0 M1 H1 locs1 → W p l e R s m args below meth c H1 locs1 cells slots Q (F0 m (pc + 3) ls rest)) : W p l e R s m args below meth c H locs cells slots Q (F0 m pc ls (.int n :: .int dp :: .ref (a i1) :: .int sp :: .ref (a i0) :: rest)) := by
  refine va_copyi (D := (dC, dI)) (ty := .int) X.1.1 X.1.2.1 (X.1.2.2.1.trans hsz.symm) X.1.2.2.2.1 (X.1.2.2.2.2 _ hl) (X.1.2.2.2.2 _ h2) (X.1.2.2.2.2 _ h3) (X.1.2.2.2.2 _ h4) X.2.1 hG.1 (wsM_D X.2.2.1 M) hG.2 i0 i1 0 0 (at_iarr hs0) (at_iarr hs1) rfl rfl rfl hg.1 hg.2.1 hg.2.2.1 hg.2.2.2.1 hg.2.2.2.2 (fun _ _ => rfl) hR.1 hR.2 hdg (fun H1 locs1 hP _ hS => ?_)
  rw [wsM_cp hs1] at hP
  exact kk _ H1 locs1 rfl ⟨hP, hS⟩
theorem mw_recv (X : XU dC dI cy a p s m c args meth cc nL own ret) (hG : GU dC dI cy a H0 M H locs) {i ci N : Nat} {fl : List (Nat ⊕ Bool)} {C : String} {T : u_T} (hs : shp i = objS ci fl) (hc : vwCl[ci]? = some (C, T, N)) : ∃ cell : Cell, H[a i]? = some cell ∧ cell.vm.isStatics = false ∧ s.vm.findClass C = some cell.cls := va_recv X.2.1 hG.1 hc (at_obj hs)
theorem mw_pre (X : XU dC dI cy a p s m c args meth cc nL own ret) (hG : GU dC dI cy a H0 M H locs) {vs : List Value} : ∀ U : State, U.heap = H → s.WarmedH U.vm → PU dC dI cy a vs M vs.toArray U := fun U hU hW => ⟨rfl, by rw [hU]; exact hG.1, va_K.moved hW.alike X.2.1⟩
theorem mw_callVi (X : XU dC dI cy a p s m c args meth cc nL own ret) (hG : GU dC dI cy a H0 M H locs) {y : MethodName} {bytes : ByteArray} {maxL n index i ci N : Nat} {ret1 : Option FieldType} {fl : List (Nat ⊕ Bool)} {C : String} {T : u_T} {rm : Room} {As st0 : List Value} {r : Int32} {M1 : Mem} (hs : shp i = objS ci fl) (hc : vwCl[ci]? = some (C, T, N)) (hM : Met l y (wsU y bytes maxL ret1) rm (PU dC dI cy a (.ref (a i) :: As) M) (QUi dC dI cy a r M1) 0 0 (AU a)) (cw : CallW R s args own C index y bytes maxL ret1 (wsU y bytes maxL ret1) rm 0 0 n) (hn : As.length = n) (hsz : ls.size = nL) (hst : st0 = As.reverse ++ .ref (a i) :: rest) (hW : (rest.map fun v => v.category).sum ≤ 8) (hdg : decode cc pc = .ok (.invokevirtual index, 3))
    (kk : ∀ (H1 : Heap) (locs1 : List Loc), GU dC dI cy a H0 M1 H1 locs1 → W p l e R s m args below meth c H1 locs1 0 0 Q (F0 m (pc + 3) ls (.int r :: rest))) : W p l e R s m args below meth c H locs 0 0 Q (F0 m pc ls st0) := by
  refine va_calli (va_runV (As := As) (rest := rest) (g := F0 m pc ls st0) X.1 hM cw ⟨PU_blind, mw_recv X hG hs hc, mw_pre X hG⟩ rfl hn hsz hst (lv_room hW) hdg ⟨Nat.zero_le _, Nat.zero_le _⟩) hG.2 (fun q _ h => h) (fun q h => h) (fun r1 u t H1 locs1 ht hvm hw hB hz1 hk1 hS => ?_)
  obtain ⟨rfl, rfl⟩ := hw
  exact kk H1 locs1 ⟨by rw [← ht]; exact hB, hS⟩
theorem mw_callVv (X : XU dC dI cy a p s m c args meth cc nL own ret) (hG : GU dC dI cy a H0 M H locs) {y : MethodName} {bytes : ByteArray} {maxL n index i ci N : Nat} {ret1 : Option FieldType} {fl : List (Nat ⊕ Bool)} {C : String} {T : u_T} {rm : Room} {As st0 : List Value} {M1 : Mem} (hs : shp i = objS ci fl) (hc : vwCl[ci]? = some (C, T, N)) (hM : Met l y (wsU y bytes maxL ret1) rm (PU dC dI cy a (.ref (a i) :: As) M) (QUv dC dI cy a M1) 0 0 (AU a)) (cw : CallW R s args own C index y bytes maxL ret1 (wsU y bytes maxL ret1) rm 0 0 n) (hn : As.length = n) (hsz : ls.size = nL) (hst : st0 = As.reverse ++ .ref (a i) :: rest) (hW : (rest.map fun v => v.category).sum ≤ 8) (hdg : decode cc pc = .ok (.invokevirtual index, 3))
    (kk : ∀ (H1 : Heap) (locs1 : List Loc), GU dC dI cy a H0 M1 H1 locs1 → W p l e R s m args below meth c H1 locs1 0 0 Q (F0 m (pc + 3) ls rest)) : W p l e R s m args below meth c H locs 0 0 Q (F0 m pc ls st0) := by
  refine va_callv (va_runV (As := As) (rest := rest) (g := F0 m pc ls st0) X.1 hM cw ⟨PU_blind, mw_recv X hG hs hc, mw_pre X hG⟩ rfl hn hsz hst (lv_room hW) hdg ⟨Nat.zero_le _, Nat.zero_le _⟩) hG.2 (fun q _ h => h) (fun q h => h) (fun u t H1 locs1 ht hvm hw hB hz1 hk1 hS => ?_)
  subst hw
  exact kk H1 locs1 ⟨by rw [← ht]; exact hB, hS⟩
theorem mw_callSi (X : XU dC dI cy a p s m c args meth cc nL own ret) (hG : GU dC dI cy a H0 M H locs) {y : MethodName} {bytes : ByteArray} {maxL n index : Nat} {ret1 : Option FieldType} {rm : Room} {As st0 : List Value} {r : Int32} {M1 : Mem} (hM : Met l y (wsU y bytes maxL ret1) rm (PU dC dI cy a As M) (QUi dC dI cy a r M1) 0 0 (AU a)) (cw : CallB R s args own index y bytes maxL ret1 (wsU y bytes maxL ret1) rm 0 0 n ∧ (Cond.static y).before args s = true) (hn : As.length = n) (hsz : ls.size = nL) (hst : st0 = As.reverse ++ rest) (hW : (rest.map fun v => v.category).sum ≤ 8) (hdg : decode cc pc = .ok (.invokestatic index, 3))
    (kk : ∀ (H1 : Heap) (locs1 : List Loc), GU dC dI cy a H0 M1 H1 locs1 → W p l e R s m args below meth c H1 locs1 0 0 Q (F0 m (pc + 3) ls (.int r :: rest))) : W p l e R s m args below meth c H locs 0 0 Q (F0 m pc ls st0) := by
  refine va_calli (va_runS (As := As) (rest := rest) (g := F0 m pc ls st0) X.1 hM cw ⟨PU_blind, mw_pre X hG⟩ rfl hn hsz hst (lv_room hW) hdg ⟨Nat.zero_le _, Nat.zero_le _⟩) hG.2 (fun q _ h => h) (fun q h => h) (fun r1 u t H1 locs1 ht hvm hw hB hz1 hk1 hS => ?_)
  obtain ⟨rfl, rfl⟩ := hw
  exact kk H1 locs1 ⟨by rw [← ht]; exact hB, hS⟩
theorem mw_callSl (X : XU dC dI cy a p s m c args meth cc nL own ret) (hG : GU dC dI cy a H0 M H locs) {y : MethodName} {bytes : ByteArray} {maxL n index : Nat} {ret1 : Option FieldType} {rm : Room} {As st0 : List Value} {r : Int64} {M1 : Mem} (hM : Met l y (wsU y bytes maxL ret1) rm (PU dC dI cy a As M) (QUl dC dI cy a r M1) 0 0 (AU a)) (cw : CallB R s args own index y bytes maxL ret1 (wsU y bytes maxL ret1) rm 0 0 n ∧ (Cond.static y).before args s = true) (hn : As.length = n) (hsz : ls.size = nL) (hst : st0 = As.reverse ++ rest) (hW : (rest.map fun v => v.category).sum ≤ 8) (hdg : decode cc pc = .ok (.invokestatic index, 3))
    (kk : ∀ (H1 : Heap) (locs1 : List Loc), GU dC dI cy a H0 M1 H1 locs1 → W p l e R s m args below meth c H1 locs1 0 0 Q (F0 m (pc + 3) ls (.long r :: rest))) : W p l e R s m args below meth c H locs 0 0 Q (F0 m pc ls st0) := by
  refine va_calll (va_runS (As := As) (rest := rest) (g := F0 m pc ls st0) X.1 hM cw ⟨PU_blind, mw_pre X hG⟩ rfl hn hsz hst (lv_room hW) hdg ⟨Nat.zero_le _, Nat.zero_le _⟩) hG.2 (fun q _ h => h) (fun q h => h) (fun r1 u t H1 locs1 ht hvm hw hB hz1 hk1 hS => ?_)
  obtain ⟨rfl, rfl⟩ := hw
  exact kk H1 locs1 ⟨by rw [← ht]; exact hB, hS⟩
theorem mw_cwV (X : XU dC dI cy a p s m c args meth cc nL own ret) {y : MethodName} {bytes : ByteArray} {maxL index : Nat} {ret1 : Option FieldType} {C : String} {rm : Room} (n : Nat) (hg : GoodIn wsL_law (wsV own index C y (wsU y bytes maxL ret1))) (hd : y.cls = C ∧ y.cls ≠ "java/lang/invoke/MethodHandle" ∧ y.cls ≠ "java/lang/invoke/VarHandle" ∧ (parseMethodDescriptor y.desc).map (fun d => d.parameters.length) = some n) (h0 : rm.cells = 0 ∧ rm.slots = 0) (hR : rm.frames + 1 ≤ R.frames ∧ 8 + (maxL + 11) + rm.locals ≤ R.locals) : CallW R s args own C index y bytes maxL ret1 (wsU y bytes maxL ret1) rm 0 0 n := cwV n X.1.2.2.2.2 hg rfl h0.1 h0.2 hd hR
theorem mw_cwS (X : XU dC dI cy a p s m c args meth cc nL own ret) {y : MethodName} {bytes : ByteArray} {maxL index : Nat} {ret1 : Option FieldType} {rm : Room} (n : Nat) (hg : GoodIn wsL_law (wsS own index y (wsU y bytes maxL ret1))) (hd : y.cls = own ∧ y.cls ≠ "java/lang/invoke/MethodHandle" ∧ y.cls ≠ "java/lang/invoke/VarHandle" ∧ (parseMethodDescriptor y.desc).map (fun d => d.parameters.length) = some n) (h0 : rm.cells = 0 ∧ rm.slots = 0) (hR : rm.frames + 1 ≤ R.frames ∧ 8 + (maxL + 11) + rm.locals ≤ R.locals) : CallB R s args own index y bytes maxL ret1 (wsU y bytes maxL ret1) rm 0 0 n ∧ (Cond.static y).before args s = true := cwS n X.1.2.2.2.2 hg rfl h0.1 h0.2 hd hR
theorem mw_iret (X : XU dC dI cy a p s m c args meth cc nL own (some .int)) (hG : GU dC dI cy a s.heap M H locs) {v : Int32} (hdg : decode cc pc = .ok (.ireturn, 1)) : W p l e R s m args below meth c H locs 0 0 (MQ below (QUi dC dI cy a v M) args s 0 0 (AU a)) (F0 m pc ls [.int v]) :=
  W.iret X.1.1 X.1.2.1 X.2.2.2.1 (fun t ht hW => ⟨⟨v, M, rfl, ⟨rfl, rfl⟩, by show va_P _ _ _ _; rw [ht]; exact hG.1⟩, hG.2.F ht⟩) hG.2.2.2 hdg X.2.2.2.2
theorem mw_zret (X : XU dC dI cy a p s m c args meth cc nL own (some .boolean)) (hG : GU dC dI cy a s.heap M H locs) {v : Int32} (hn : narrow .boolean (.int v) = .int v) (hdg : decode cc pc = .ok (.ireturn, 1)) : W p l e R s m args below meth c H locs 0 0 (MQ below (QUi dC dI cy a v M) args s 0 0 (AU a)) (F0 m pc ls [.int v]) :=
  W.zret X.1.1 X.1.2.1 X.2.2.2.1 hn (fun t ht hW => ⟨⟨v, M, rfl, ⟨rfl, rfl⟩, by show va_P _ _ _ _; rw [ht]; exact hG.1⟩, hG.2.F ht⟩) hG.2.2.2 hdg X.2.2.2.2
theorem mw_lret (X : XU dC dI cy a p s m c args meth cc nL own (some .long)) (hG : GU dC dI cy a s.heap M H locs) {v : Int64} (hdg : decode cc pc = .ok (.lreturn, 1)) : W p l e R s m args below meth c H locs 0 0 (MQ below (QUl dC dI cy a v M) args s 0 0 (AU a)) (F0 m pc ls [.long v]) :=
  W.lret X.1.1 X.1.2.1 X.2.2.2.1 (fun t ht hW => ⟨⟨v, M, rfl, ⟨rfl, rfl⟩, by show va_P _ _ _ _; rw [ht]; exact hG.1⟩, hG.2.F ht⟩) hG.2.2.2 hdg X.2.2.2.2
theorem mw_vret (X : XU dC dI cy a p s m c args meth cc nL own none) (hG : GU dC dI cy a s.heap M H locs) (hdg : decode cc pc = .ok (.return_, 1)) : W p l e R s m args below meth c H locs 0 0 (MQ below (QUv dC dI cy a M) args s 0 0 (AU a)) (F0 m pc ls []) :=
  W.vret X.1.1 X.1.2.1 X.2.2.2.1 (fun t ht hW => ⟨⟨M, rfl, rfl, by show va_P _ _ _ _; rw [ht]; exact hG.1⟩, hG.2.F ht⟩) hG.2.2.2 hdg X.2.2.2.2
end MW
theorem mw_met {l : Launch} {dC : Nat → ClassId} {dI : Nat → Nat → Nat} {cy : Nat → ClassId} {a : Nat → Nat} {y : MethodName} {cc : ByteArray} {nL : Nat} {ret : Option FieldType} {rm : Room} {vs : List Value} {M : Mem} {Qc : Array Value → State → Outcome → State → Prop} (hy : plainName y.cls = true) (ha : injU a) (hle : (lg_sl vs).length ≤ nL)
    (body : ∀ (p : Program) (e : Env) (s : State) (m : MethodId) (below : List Frame) (meth : Method) (c : Code) (ls : Array Slot), XU dC dI cy a p s m c vs.toArray meth cc nL y.cls ret → GU dC dI cy a s.heap M s.heap [] → lv_has ls nL (lv_args 0 vs) → W p l e rm s m vs.toArray below meth c s.heap [] 0 0 (MQ below Qc vs.toArray s 0 0 (AU a)) (F0 m 0 ls [])) : Met l y (wsU y cc nL ret) rm (PU dC dI cy a vs M) Qc 0 0 (AU a) := by
  refine Met.ofW (cc := cc) (maxL := nL) (ret := ret) hy rfl ?_
  intro p e s m args below meth c s₁ B hml hv
  obtain ⟨rfl, hP, hK⟩ := hv
  have hts := atoms_spec (ws := wsU y cc nL ret) B.pre
  rw [lg_entry_eq]
  exact body p e s m below meth c _ ⟨⟨B.exec, B.bytes, hml, findClass_of_methodNamed B.named, fun w hw => hts w (List.mem_cons_of_mem _ hw)⟩, hK, ha, B.returns, B.notSynchronized⟩ ⟨hP, va_S.rf⟩ (lv_entry vs hle)
end
section
theorem vin_lt {x : Int32} {n : Nat} (h : vp_in x n) : x.toNatClampNeg < n := Nat.not_le.mp fun q => h (Or.inr q)
theorem zk_nar {x : Int32} (h : x = 0 ∨ x = 1) : narrow .boolean (.int x) = .int x := by rcases h with rfl | rfl <;> decide
theorem gf_X0_9 {p : Program} {l : Launch} {e : Env} {R : Room} {s : State} {m : MethodId} {args : Array Value} {below : List Frame} {meth : Method} {c : Code} {H : Heap} {locs : List Loc} {cells slots : Nat} {Q : State → Prop} {dC : Nat → ClassId} {dI : Nat → Nat → Nat} {cy : Nat → ClassId} {a : Nat → Nat} {cc : ByteArray} {nL : Nat} {ret : Option FieldType} {H0 : Heap} {M : Mem} {pc : Nat} {ls : Array Slot} {rest : List Value} {i : Nat} (X : XU dC dI cy a p s m c args meth cc nL RX0 ret) (hG : GU dC dI cy a H0 M H locs) (hT : K0 i) (hdg : decode cc pc = .ok (.getfield 9, 3)) (kk : W p l e R s m args below meth c H locs cells slots Q (F0 m (pc + 3) ls (.ref (a (i + 1)) :: rest))) : W p l e R s m args below meth c H locs cells slots Q (F0 m pc ls (.ref (a i) :: rest)) := mw_get (k := 0) X hG hT.1 rfl rfl inlX0 (by decide) wd_fk_X0_9 hdg kk
theorem gf_X0_15 {p : Program} {l : Launch} {e : Env} {R : Room} {s : State} {m : MethodId} {args : Array Value} {below : List Frame} {meth : Method} {c : Code} {H : Heap} {locs : List Loc} {cells slots : Nat} {Q : State → Prop} {dC : Nat → ClassId} {dI : Nat → Nat → Nat} {cy : Nat → ClassId} {a : Nat → Nat} {cc : ByteArray} {nL : Nat} {ret : Option FieldType} {H0 : Heap} {M : Mem} {pc : Nat} {ls : Array Slot} {rest : List Value} {i : Nat} (X : XU dC dI cy a p s m c args meth cc nL RX0 ret) (hG : GU dC dI cy a H0 M H locs) (hT : K0 i) (hdg : decode cc pc = .ok (.getfield 15, 3)) (kk : W p l e R s m args below meth c H locs cells slots Q (F0 m (pc + 3) ls (.ref (a (i + 2)) :: rest))) : W p l e R s m args below meth c H locs cells slots Q (F0 m pc ls (.ref (a i) :: rest)) := mw_get (k := 1) X hG hT.1 rfl rfl inlX0 (by decide) wd_fk_X0_15 hdg kk
theorem gf_X0_18 {p : Program} {l : Launch} {e : Env} {R : Room} {s : State} {m : MethodId} {args : Array Value} {below : List Frame} {meth : Method} {c : Code} {H : Heap} {locs : List Loc} {cells slots : Nat} {Q : State → Prop} {dC : Nat → ClassId} {dI : Nat → Nat → Nat} {cy : Nat → ClassId} {a : Nat → Nat} {cc : ByteArray} {nL : Nat} {ret : Option FieldType} {H0 : Heap} {M : Mem} {pc : Nat} {ls : Array Slot} {rest : List Value} {i : Nat} (X : XU dC dI cy a p s m c args meth cc nL RX0 ret) (hG : GU dC dI cy a H0 M H locs) (hT : K0 i) (hdg : decode cc pc = .ok (.getfield 18, 3)) (kk : W p l e R s m args below meth c H locs cells slots Q (F0 m (pc + 3) ls (.ref (a (i + 3)) :: rest))) : W p l e R s m args below meth c H locs cells slots Q (F0 m pc ls (.ref (a i) :: rest)) := mw_get (k := 2) X hG hT.1 rfl rfl inlX0 (by decide) wd_fk_X0_18 hdg kk
theorem gf_X0_21 {p : Program} {l : Launch} {e : Env} {R : Room} {s : State} {m : MethodId} {args : Array Value} {below : List Frame} {meth : Method} {c : Code} {H : Heap} {locs : List Loc} {cells slots : Nat} {Q : State → Prop} {dC : Nat → ClassId} {dI : Nat → Nat → Nat} {cy : Nat → ClassId} {a : Nat → Nat} {cc : ByteArray} {nL : Nat} {ret : Option FieldType} {H0 : Heap} {M : Mem} {pc : Nat} {ls : Array Slot} {rest : List Value} {i : Nat} (X : XU dC dI cy a p s m c args meth cc nL RX0 ret) (hG : GU dC dI cy a H0 M H locs) (hT : K0 i) (hdg : decode cc pc = .ok (.getfield 21, 3)) (kk : W p l e R s m args below meth c H locs cells slots Q (F0 m (pc + 3) ls (.ref (a (i + 4)) :: rest))) : W p l e R s m args below meth c H locs cells slots Q (F0 m pc ls (.ref (a i) :: rest)) := mw_get (k := 3) X hG hT.1 rfl rfl inlX0 (by decide) wd_fk_X0_21 hdg kk
theorem gf_X0_24 {p : Program} {l : Launch} {e : Env} {R : Room} {s : State} {m : MethodId} {args : Array Value} {below : List Frame} {meth : Method} {c : Code} {H : Heap} {locs : List Loc} {cells slots : Nat} {Q : State → Prop} {dC : Nat → ClassId} {dI : Nat → Nat → Nat} {cy : Nat → ClassId} {a : Nat → Nat} {cc : ByteArray} {nL : Nat} {ret : Option FieldType} {H0 : Heap} {M : Mem} {pc : Nat} {ls : Array Slot} {rest : List Value} {i : Nat} (X : XU dC dI cy a p s m c args meth cc nL RX0 ret) (hG : GU dC dI cy a H0 M H locs) (hT : K0 i) (hdg : decode cc pc = .ok (.getfield 24, 3)) (kk : W p l e R s m args below meth c H locs cells slots Q (F0 m (pc + 3) ls (.ref (a (i + 5)) :: rest))) : W p l e R s m args below meth c H locs cells slots Q (F0 m pc ls (.ref (a i) :: rest)) := mw_get (k := 4) X hG hT.1 rfl rfl inlX0 (by decide) wd_fk_X0_24 hdg kk
theorem gf_X0_27 {p : Program} {l : Launch} {e : Env} {R : Room} {s : State} {m : MethodId} {args : Array Value} {below : List Frame} {meth : Method} {c : Code} {H : Heap} {locs : List Loc} {cells slots : Nat} {Q : State → Prop} {dC : Nat → ClassId} {dI : Nat → Nat → Nat} {cy : Nat → ClassId} {a : Nat → Nat} {cc : ByteArray} {nL : Nat} {ret : Option FieldType} {H0 : Heap} {M : Mem} {pc : Nat} {ls : Array Slot} {rest : List Value} {i : Nat} (X : XU dC dI cy a p s m c args meth cc nL RX0 ret) (hG : GU dC dI cy a H0 M H locs) (hT : K0 i) (hdg : decode cc pc = .ok (.getfield 27, 3)) (kk : W p l e R s m args below meth c H locs cells slots Q (F0 m (pc + 3) ls (.ref (a (i + 6)) :: rest))) : W p l e R s m args below meth c H locs cells slots Q (F0 m pc ls (.ref (a i) :: rest)) := mw_get (k := 5) X hG hT.1 rfl rfl inlX0 (by decide) wd_fk_X0_27 hdg kk
theorem gf_X0_30 {p : Program} {l : Launch} {e : Env} {R : Room} {s : State} {m : MethodId} {args : Array Value} {below : List Frame} {meth : Method} {c : Code} {H : Heap} {locs : List Loc} {cells slots : Nat} {Q : State → Prop} {dC : Nat → ClassId} {dI : Nat → Nat → Nat} {cy : Nat → ClassId} {a : Nat → Nat} {cc : ByteArray} {nL : Nat} {ret : Option FieldType} {H0 : Heap} {M : Mem} {pc : Nat} {ls : Array Slot} {rest : List Value} {i : Nat} (X : XU dC dI cy a p s m c args meth cc nL RX0 ret) (hG : GU dC dI cy a H0 M H locs) (hT : K0 i) (hdg : decode cc pc = .ok (.getfield 30, 3)) (kk : W p l e R s m args below meth c H locs cells slots Q (F0 m (pc + 3) ls (.ref (a (i + 7)) :: rest))) : W p l e R s m args below meth c H locs cells slots Q (F0 m pc ls (.ref (a i) :: rest)) := mw_get (k := 6) X hG hT.1 rfl rfl inlX0 (by decide) wd_fk_X0_30 hdg kk
theorem gf_X0_33 {p : Program} {l : Launch} {e : Env} {R : Room} {s : State} {m : MethodId} {args : Array Value} {below : List Frame} {meth : Method} {c : Code} {H : Heap} {locs : List Loc} {cells slots : Nat} {Q : State → Prop} {dC : Nat → ClassId} {dI : Nat → Nat → Nat} {cy : Nat → ClassId} {a : Nat → Nat} {cc : ByteArray} {nL : Nat} {ret : Option FieldType} {H0 : Heap} {M : Mem} {pc : Nat} {ls : Array Slot} {rest : List Value} {i : Nat} (X : XU dC dI cy a p s m c args meth cc nL RX0 ret) (hG : GU dC dI cy a H0 M H locs) (hT : K0 i) (hdg : decode cc pc = .ok (.getfield 33, 3)) (kk : W p l e R s m args below meth c H locs cells slots Q (F0 m (pc + 3) ls (.int (rd M i 7) :: rest))) : W p l e R s m args below meth c H locs cells slots Q (F0 m pc ls (.ref (a i) :: rest)) := mw_get (k := 7) X hG hT.1 rfl rfl inlX0 (by decide) wd_fk_X0_33 hdg kk
theorem gf_X1_9 {p : Program} {l : Launch} {e : Env} {R : Room} {s : State} {m : MethodId} {args : Array Value} {below : List Frame} {meth : Method} {c : Code} {H : Heap} {locs : List Loc} {cells slots : Nat} {Q : State → Prop} {dC : Nat → ClassId} {dI : Nat → Nat → Nat} {cy : Nat → ClassId} {a : Nat → Nat} {cc : ByteArray} {nL : Nat} {ret : Option FieldType} {H0 : Heap} {M : Mem} {pc : Nat} {ls : Array Slot} {rest : List Value} {i : Nat} (X : XU dC dI cy a p s m c args meth cc nL RX1 ret) (hG : GU dC dI cy a H0 M H locs) (hT : K1 i) (hdg : decode cc pc = .ok (.getfield 9, 3)) (kk : W p l e R s m args below meth c H locs cells slots Q (F0 m (pc + 3) ls (.ref (a (i + 1)) :: rest))) : W p l e R s m args below meth c H locs cells slots Q (F0 m pc ls (.ref (a i) :: rest)) := mw_get (k := 0) X hG hT.1 rfl rfl inlX1 (by decide) wd_fk_X1_9 hdg kk
theorem gf_X1_15 {p : Program} {l : Launch} {e : Env} {R : Room} {s : State} {m : MethodId} {args : Array Value} {below : List Frame} {meth : Method} {c : Code} {H : Heap} {locs : List Loc} {cells slots : Nat} {Q : State → Prop} {dC : Nat → ClassId} {dI : Nat → Nat → Nat} {cy : Nat → ClassId} {a : Nat → Nat} {cc : ByteArray} {nL : Nat} {ret : Option FieldType} {H0 : Heap} {M : Mem} {pc : Nat} {ls : Array Slot} {rest : List Value} {i : Nat} (X : XU dC dI cy a p s m c args meth cc nL RX1 ret) (hG : GU dC dI cy a H0 M H locs) (hT : K1 i) (hdg : decode cc pc = .ok (.getfield 15, 3)) (kk : W p l e R s m args below meth c H locs cells slots Q (F0 m (pc + 3) ls (.ref (a (i + 2)) :: rest))) : W p l e R s m args below meth c H locs cells slots Q (F0 m pc ls (.ref (a i) :: rest)) := mw_get (k := 1) X hG hT.1 rfl rfl inlX1 (by decide) wd_fk_X1_15 hdg kk
theorem gf_X1_18 {p : Program} {l : Launch} {e : Env} {R : Room} {s : State} {m : MethodId} {args : Array Value} {below : List Frame} {meth : Method} {c : Code} {H : Heap} {locs : List Loc} {cells slots : Nat} {Q : State → Prop} {dC : Nat → ClassId} {dI : Nat → Nat → Nat} {cy : Nat → ClassId} {a : Nat → Nat} {cc : ByteArray} {nL : Nat} {ret : Option FieldType} {H0 : Heap} {M : Mem} {pc : Nat} {ls : Array Slot} {rest : List Value} {i : Nat} (X : XU dC dI cy a p s m c args meth cc nL RX1 ret) (hG : GU dC dI cy a H0 M H locs) (hT : K1 i) (hdg : decode cc pc = .ok (.getfield 18, 3)) (kk : W p l e R s m args below meth c H locs cells slots Q (F0 m (pc + 3) ls (.ref (a (i + 3)) :: rest))) : W p l e R s m args below meth c H locs cells slots Q (F0 m pc ls (.ref (a i) :: rest)) := mw_get (k := 2) X hG hT.1 rfl rfl inlX1 (by decide) wd_fk_X1_18 hdg kk
theorem gf_X1_21 {p : Program} {l : Launch} {e : Env} {R : Room} {s : State} {m : MethodId} {args : Array Value} {below : List Frame} {meth : Method} {c : Code} {H : Heap} {locs : List Loc} {cells slots : Nat} {Q : State → Prop} {dC : Nat → ClassId} {dI : Nat → Nat → Nat} {cy : Nat → ClassId} {a : Nat → Nat} {cc : ByteArray} {nL : Nat} {ret : Option FieldType} {H0 : Heap} {M : Mem} {pc : Nat} {ls : Array Slot} {rest : List Value} {i : Nat} (X : XU dC dI cy a p s m c args meth cc nL RX1 ret) (hG : GU dC dI cy a H0 M H locs) (hT : K1 i) (hdg : decode cc pc = .ok (.getfield 21, 3)) (kk : W p l e R s m args below meth c H locs cells slots Q (F0 m (pc + 3) ls (.ref (a (i + 4)) :: rest))) : W p l e R s m args below meth c H locs cells slots Q (F0 m pc ls (.ref (a i) :: rest)) := mw_get (k := 3) X hG hT.1 rfl rfl inlX1 (by decide) wd_fk_X1_21 hdg kk
theorem gf_X1_24 {p : Program} {l : Launch} {e : Env} {R : Room} {s : State} {m : MethodId} {args : Array Value} {below : List Frame} {meth : Method} {c : Code} {H : Heap} {locs : List Loc} {cells slots : Nat} {Q : State → Prop} {dC : Nat → ClassId} {dI : Nat → Nat → Nat} {cy : Nat → ClassId} {a : Nat → Nat} {cc : ByteArray} {nL : Nat} {ret : Option FieldType} {H0 : Heap} {M : Mem} {pc : Nat} {ls : Array Slot} {rest : List Value} {i : Nat} (X : XU dC dI cy a p s m c args meth cc nL RX1 ret) (hG : GU dC dI cy a H0 M H locs) (hT : K1 i) (hdg : decode cc pc = .ok (.getfield 24, 3)) (kk : W p l e R s m args below meth c H locs cells slots Q (F0 m (pc + 3) ls (.int (rd M i 4) :: rest))) : W p l e R s m args below meth c H locs cells slots Q (F0 m pc ls (.ref (a i) :: rest)) := mw_get (k := 4) X hG hT.1 rfl rfl inlX1 (by decide) wd_fk_X1_24 hdg kk
theorem gf_X2_9 {p : Program} {l : Launch} {e : Env} {R : Room} {s : State} {m : MethodId} {args : Array Value} {below : List Frame} {meth : Method} {c : Code} {H : Heap} {locs : List Loc} {cells slots : Nat} {Q : State → Prop} {dC : Nat → ClassId} {dI : Nat → Nat → Nat} {cy : Nat → ClassId} {a : Nat → Nat} {cc : ByteArray} {nL : Nat} {ret : Option FieldType} {H0 : Heap} {M : Mem} {pc : Nat} {ls : Array Slot} {rest : List Value} {i : Nat} (X : XU dC dI cy a p s m c args meth cc nL RX2 ret) (hG : GU dC dI cy a H0 M H locs) (hT : K2 i) (hdg : decode cc pc = .ok (.getfield 9, 3)) (kk : W p l e R s m args below meth c H locs cells slots Q (F0 m (pc + 3) ls (.ref (a (i + 1)) :: rest))) : W p l e R s m args below meth c H locs cells slots Q (F0 m pc ls (.ref (a i) :: rest)) := mw_get (k := 0) X hG hT.1 rfl rfl inlX2 (by decide) wd_fk_X2_9 hdg kk
theorem gf_X2_15 {p : Program} {l : Launch} {e : Env} {R : Room} {s : State} {m : MethodId} {args : Array Value} {below : List Frame} {meth : Method} {c : Code} {H : Heap} {locs : List Loc} {cells slots : Nat} {Q : State → Prop} {dC : Nat → ClassId} {dI : Nat → Nat → Nat} {cy : Nat → ClassId} {a : Nat → Nat} {cc : ByteArray} {nL : Nat} {ret : Option FieldType} {H0 : Heap} {M : Mem} {pc : Nat} {ls : Array Slot} {rest : List Value} {i : Nat} (X : XU dC dI cy a p s m c args meth cc nL RX2 ret) (hG : GU dC dI cy a H0 M H locs) (hT : K2 i) (hdg : decode cc pc = .ok (.getfield 15, 3)) (kk : W p l e R s m args below meth c H locs cells slots Q (F0 m (pc + 3) ls (.ref (a (i + 2)) :: rest))) : W p l e R s m args below meth c H locs cells slots Q (F0 m pc ls (.ref (a i) :: rest)) := mw_get (k := 1) X hG hT.1 rfl rfl inlX2 (by decide) wd_fk_X2_15 hdg kk
theorem gf_X2_18 {p : Program} {l : Launch} {e : Env} {R : Room} {s : State} {m : MethodId} {args : Array Value} {below : List Frame} {meth : Method} {c : Code} {H : Heap} {locs : List Loc} {cells slots : Nat} {Q : State → Prop} {dC : Nat → ClassId} {dI : Nat → Nat → Nat} {cy : Nat → ClassId} {a : Nat → Nat} {cc : ByteArray} {nL : Nat} {ret : Option FieldType} {H0 : Heap} {M : Mem} {pc : Nat} {ls : Array Slot} {rest : List Value} {i : Nat} (X : XU dC dI cy a p s m c args meth cc nL RX2 ret) (hG : GU dC dI cy a H0 M H locs) (hT : K2 i) (hdg : decode cc pc = .ok (.getfield 18, 3)) (kk : W p l e R s m args below meth c H locs cells slots Q (F0 m (pc + 3) ls (.ref (a (i + 3)) :: rest))) : W p l e R s m args below meth c H locs cells slots Q (F0 m pc ls (.ref (a i) :: rest)) := mw_get (k := 2) X hG hT.1 rfl rfl inlX2 (by decide) wd_fk_X2_18 hdg kk
theorem gf_X2_21 {p : Program} {l : Launch} {e : Env} {R : Room} {s : State} {m : MethodId} {args : Array Value} {below : List Frame} {meth : Method} {c : Code} {H : Heap} {locs : List Loc} {cells slots : Nat} {Q : State → Prop} {dC : Nat → ClassId} {dI : Nat → Nat → Nat} {cy : Nat → ClassId} {a : Nat → Nat} {cc : ByteArray} {nL : Nat} {ret : Option FieldType} {H0 : Heap} {M : Mem} {pc : Nat} {ls : Array Slot} {rest : List Value} {i : Nat} (X : XU dC dI cy a p s m c args meth cc nL RX2 ret) (hG : GU dC dI cy a H0 M H locs) (hT : K2 i) (hdg : decode cc pc = .ok (.getfield 21, 3)) (kk : W p l e R s m args below meth c H locs cells slots Q (F0 m (pc + 3) ls (.int (rd M i 3) :: rest))) : W p l e R s m args below meth c H locs cells slots Q (F0 m pc ls (.ref (a i) :: rest)) := mw_get (k := 3) X hG hT.1 rfl rfl inlX2 (by decide) wd_fk_X2_21 hdg kk
theorem gf_X3_12 {p : Program} {l : Launch} {e : Env} {R : Room} {s : State} {m : MethodId} {args : Array Value} {below : List Frame} {meth : Method} {c : Code} {H : Heap} {locs : List Loc} {cells slots : Nat} {Q : State → Prop} {dC : Nat → ClassId} {dI : Nat → Nat → Nat} {cy : Nat → ClassId} {a : Nat → Nat} {cc : ByteArray} {nL : Nat} {ret : Option FieldType} {H0 : Heap} {M : Mem} {pc : Nat} {ls : Array Slot} {rest : List Value} {i : Nat} (X : XU dC dI cy a p s m c args meth cc nL RX3 ret) (hG : GU dC dI cy a H0 M H locs) (hT : K3 i) (hdg : decode cc pc = .ok (.getfield 12, 3)) (kk : W p l e R s m args below meth c H locs cells slots Q (F0 m (pc + 3) ls (.ref (a (i + 1)) :: rest))) : W p l e R s m args below meth c H locs cells slots Q (F0 m pc ls (.ref (a i) :: rest)) := mw_get (k := 0) X hG hT.1 rfl rfl inlX3 (by decide) wd_fk_X3_12 hdg kk
theorem gf_X3_20 {p : Program} {l : Launch} {e : Env} {R : Room} {s : State} {m : MethodId} {args : Array Value} {below : List Frame} {meth : Method} {c : Code} {H : Heap} {locs : List Loc} {cells slots : Nat} {Q : State → Prop} {dC : Nat → ClassId} {dI : Nat → Nat → Nat} {cy : Nat → ClassId} {a : Nat → Nat} {cc : ByteArray} {nL : Nat} {ret : Option FieldType} {H0 : Heap} {M : Mem} {pc : Nat} {ls : Array Slot} {rest : List Value} {i : Nat} (X : XU dC dI cy a p s m c args meth cc nL RX3 ret) (hG : GU dC dI cy a H0 M H locs) (hT : K3 i) (hdg : decode cc pc = .ok (.getfield 20, 3)) (kk : W p l e R s m args below meth c H locs cells slots Q (F0 m (pc + 3) ls (.ref (a (i + 12)) :: rest))) : W p l e R s m args below meth c H locs cells slots Q (F0 m pc ls (.ref (a i) :: rest)) := mw_get (k := 1) X hG hT.1 rfl rfl inlX3 (by decide) wd_fk_X3_20 hdg kk
theorem gf_X3_24 {p : Program} {l : Launch} {e : Env} {R : Room} {s : State} {m : MethodId} {args : Array Value} {below : List Frame} {meth : Method} {c : Code} {H : Heap} {locs : List Loc} {cells slots : Nat} {Q : State → Prop} {dC : Nat → ClassId} {dI : Nat → Nat → Nat} {cy : Nat → ClassId} {a : Nat → Nat} {cc : ByteArray} {nL : Nat} {ret : Option FieldType} {H0 : Heap} {M : Mem} {pc : Nat} {ls : Array Slot} {rest : List Value} {i : Nat} (X : XU dC dI cy a p s m c args meth cc nL RX3 ret) (hG : GU dC dI cy a H0 M H locs) (hT : K3 i) (hdg : decode cc pc = .ok (.getfield 24, 3)) (kk : W p l e R s m args below meth c H locs cells slots Q (F0 m (pc + 3) ls (.ref (a (i + 9)) :: rest))) : W p l e R s m args below meth c H locs cells slots Q (F0 m pc ls (.ref (a i) :: rest)) := mw_get (k := 2) X hG hT.1 rfl rfl inlX3 (by decide) wd_fk_X3_24 hdg kk
theorem gf_X3_28 {p : Program} {l : Launch} {e : Env} {R : Room} {s : State} {m : MethodId} {args : Array Value} {below : List Frame} {meth : Method} {c : Code} {H : Heap} {locs : List Loc} {cells slots : Nat} {Q : State → Prop} {dC : Nat → ClassId} {dI : Nat → Nat → Nat} {cy : Nat → ClassId} {a : Nat → Nat} {cc : ByteArray} {nL : Nat} {ret : Option FieldType} {H0 : Heap} {M : Mem} {pc : Nat} {ls : Array Slot} {rest : List Value} {i : Nat} (X : XU dC dI cy a p s m c args meth cc nL RX3 ret) (hG : GU dC dI cy a H0 M H locs) (hT : K3 i) (hdg : decode cc pc = .ok (.getfield 28, 3)) (kk : W p l e R s m args below meth c H locs cells slots Q (F0 m (pc + 3) ls (.ref (a (i + 10)) :: rest))) : W p l e R s m args below meth c H locs cells slots Q (F0 m pc ls (.ref (a i) :: rest)) := mw_get (k := 3) X hG hT.1 rfl rfl inlX3 (by decide) wd_fk_X3_28 hdg kk
theorem gf_X3_31 {p : Program} {l : Launch} {e : Env} {R : Room} {s : State} {m : MethodId} {args : Array Value} {below : List Frame} {meth : Method} {c : Code} {H : Heap} {locs : List Loc} {cells slots : Nat} {Q : State → Prop} {dC : Nat → ClassId} {dI : Nat → Nat → Nat} {cy : Nat → ClassId} {a : Nat → Nat} {cc : ByteArray} {nL : Nat} {ret : Option FieldType} {H0 : Heap} {M : Mem} {pc : Nat} {ls : Array Slot} {rest : List Value} {i : Nat} (X : XU dC dI cy a p s m c args meth cc nL RX3 ret) (hG : GU dC dI cy a H0 M H locs) (hT : K3 i) (hdg : decode cc pc = .ok (.getfield 31, 3)) (kk : W p l e R s m args below meth c H locs cells slots Q (F0 m (pc + 3) ls (.ref (a (i + 11)) :: rest))) : W p l e R s m args below meth c H locs cells slots Q (F0 m pc ls (.ref (a i) :: rest)) := mw_get (k := 4) X hG hT.1 rfl rfl inlX3 (by decide) wd_fk_X3_31 hdg kk
theorem gf_X3_34 {p : Program} {l : Launch} {e : Env} {R : Room} {s : State} {m : MethodId} {args : Array Value} {below : List Frame} {meth : Method} {c : Code} {H : Heap} {locs : List Loc} {cells slots : Nat} {Q : State → Prop} {dC : Nat → ClassId} {dI : Nat → Nat → Nat} {cy : Nat → ClassId} {a : Nat → Nat} {cc : ByteArray} {nL : Nat} {ret : Option FieldType} {H0 : Heap} {M : Mem} {pc : Nat} {ls : Array Slot} {rest : List Value} {i : Nat} (X : XU dC dI cy a p s m c args meth cc nL RX3 ret) (hG : GU dC dI cy a H0 M H locs) (hT : K3 i) (hdg : decode cc pc = .ok (.getfield 34, 3)) (kk : W p l e R s m args below meth c H locs cells slots Q (F0 m (pc + 3) ls (.int (rd M i 6) :: rest))) : W p l e R s m args below meth c H locs cells slots Q (F0 m pc ls (.ref (a i) :: rest)) := mw_get (k := 6) X hG hT.1 rfl rfl inlX3 (by decide) wd_fk_X3_34 hdg kk
theorem gf_X3_39 {p : Program} {l : Launch} {e : Env} {R : Room} {s : State} {m : MethodId} {args : Array Value} {below : List Frame} {meth : Method} {c : Code} {H : Heap} {locs : List Loc} {cells slots : Nat} {Q : State → Prop} {dC : Nat → ClassId} {dI : Nat → Nat → Nat} {cy : Nat → ClassId} {a : Nat → Nat} {cc : ByteArray} {nL : Nat} {ret : Option FieldType} {H0 : Heap} {M : Mem} {pc : Nat} {ls : Array Slot} {rest : List Value} {i : Nat} (X : XU dC dI cy a p s m c args meth cc nL RX3 ret) (hG : GU dC dI cy a H0 M H locs) (hT : K0 i) (hdg : decode cc pc = .ok (.getfield 39, 3)) (kk : W p l e R s m args below meth c H locs cells slots Q (F0 m (pc + 3) ls (.int (rd M i 7) :: rest))) : W p l e R s m args below meth c H locs cells slots Q (F0 m pc ls (.ref (a i) :: rest)) := mw_get (k := 7) X hG hT.1 rfl rfl inlX0 (by decide) wd_fk_X3_39 hdg kk
theorem gf_X3_42 {p : Program} {l : Launch} {e : Env} {R : Room} {s : State} {m : MethodId} {args : Array Value} {below : List Frame} {meth : Method} {c : Code} {H : Heap} {locs : List Loc} {cells slots : Nat} {Q : State → Prop} {dC : Nat → ClassId} {dI : Nat → Nat → Nat} {cy : Nat → ClassId} {a : Nat → Nat} {cc : ByteArray} {nL : Nat} {ret : Option FieldType} {H0 : Heap} {M : Mem} {pc : Nat} {ls : Array Slot} {rest : List Value} {i : Nat} (X : XU dC dI cy a p s m c args meth cc nL RX3 ret) (hG : GU dC dI cy a H0 M H locs) (hT : K2 i) (hdg : decode cc pc = .ok (.getfield 42, 3)) (kk : W p l e R s m args below meth c H locs cells slots Q (F0 m (pc + 3) ls (.int (rd M i 3) :: rest))) : W p l e R s m args below meth c H locs cells slots Q (F0 m pc ls (.ref (a i) :: rest)) := mw_get (k := 3) X hG hT.1 rfl rfl inlX2 (by decide) wd_fk_X3_42 hdg kk
theorem gf_X3_43 {p : Program} {l : Launch} {e : Env} {R : Room} {s : State} {m : MethodId} {args : Array Value} {below : List Frame} {meth : Method} {c : Code} {H : Heap} {locs : List Loc} {cells slots : Nat} {Q : State → Prop} {dC : Nat → ClassId} {dI : Nat → Nat → Nat} {cy : Nat → ClassId} {a : Nat → Nat} {cc : ByteArray} {nL : Nat} {ret : Option FieldType} {H0 : Heap} {M : Mem} {pc : Nat} {ls : Array Slot} {rest : List Value} {i : Nat} (X : XU dC dI cy a p s m c args meth cc nL RX3 ret) (hG : GU dC dI cy a H0 M H locs) (hT : K3 i) (hdg : decode cc pc = .ok (.getfield 43, 3)) (kk : W p l e R s m args below meth c H locs cells slots Q (F0 m (pc + 3) ls (.int (rd M i 5) :: rest))) : W p l e R s m args below meth c H locs cells slots Q (F0 m pc ls (.ref (a i) :: rest)) := mw_get (k := 5) X hG hT.1 rfl rfl inlX3 (by decide) wd_fk_X3_43 hdg kk
theorem gf_X3_46 {p : Program} {l : Launch} {e : Env} {R : Room} {s : State} {m : MethodId} {args : Array Value} {below : List Frame} {meth : Method} {c : Code} {H : Heap} {locs : List Loc} {cells slots : Nat} {Q : State → Prop} {dC : Nat → ClassId} {dI : Nat → Nat → Nat} {cy : Nat → ClassId} {a : Nat → Nat} {cc : ByteArray} {nL : Nat} {ret : Option FieldType} {H0 : Heap} {M : Mem} {pc : Nat} {ls : Array Slot} {rest : List Value} {i : Nat} (X : XU dC dI cy a p s m c args meth cc nL RX3 ret) (hG : GU dC dI cy a H0 M H locs) (hT : K3 i) (hdg : decode cc pc = .ok (.getfield 46, 3)) (kk : W p l e R s m args below meth c H locs cells slots Q (F0 m (pc + 3) ls (.int (rd M i 7) :: rest))) : W p l e R s m args below meth c H locs cells slots Q (F0 m pc ls (.ref (a i) :: rest)) := mw_get (k := 7) X hG hT.1 rfl rfl inlX3 (by decide) wd_fk_X3_46 hdg kk
theorem gf_X3_49 {p : Program} {l : Launch} {e : Env} {R : Room} {s : State} {m : MethodId} {args : Array Value} {below : List Frame} {meth : Method} {c : Code} {H : Heap} {locs : List Loc} {cells slots : Nat} {Q : State → Prop} {dC : Nat → ClassId} {dI : Nat → Nat → Nat} {cy : Nat → ClassId} {a : Nat → Nat} {cc : ByteArray} {nL : Nat} {ret : Option FieldType} {H0 : Heap} {M : Mem} {pc : Nat} {ls : Array Slot} {rest : List Value} {i : Nat} (X : XU dC dI cy a p s m c args meth cc nL RX3 ret) (hG : GU dC dI cy a H0 M H locs) (hT : K3 i) (hdg : decode cc pc = .ok (.getfield 49, 3)) (kk : W p l e R s m args below meth c H locs cells slots Q (F0 m (pc + 3) ls (.int (rd M i 8) :: rest))) : W p l e R s m args below meth c H locs cells slots Q (F0 m pc ls (.ref (a i) :: rest)) := mw_get (k := 8) X hG hT.1 rfl rfl inlX3 (by decide) wd_fk_X3_49 hdg kk
theorem gf_X3_52 {p : Program} {l : Launch} {e : Env} {R : Room} {s : State} {m : MethodId} {args : Array Value} {below : List Frame} {meth : Method} {c : Code} {H : Heap} {locs : List Loc} {cells slots : Nat} {Q : State → Prop} {dC : Nat → ClassId} {dI : Nat → Nat → Nat} {cy : Nat → ClassId} {a : Nat → Nat} {cc : ByteArray} {nL : Nat} {ret : Option FieldType} {H0 : Heap} {M : Mem} {pc : Nat} {ls : Array Slot} {rest : List Value} {i : Nat} (X : XU dC dI cy a p s m c args meth cc nL RX3 ret) (hG : GU dC dI cy a H0 M H locs) (hT : K3 i) (hdg : decode cc pc = .ok (.getfield 52, 3)) (kk : W p l e R s m args below meth c H locs cells slots Q (F0 m (pc + 3) ls (.int (rd M i 9) :: rest))) : W p l e R s m args below meth c H locs cells slots Q (F0 m pc ls (.ref (a i) :: rest)) := mw_get (k := 9) X hG hT.1 rfl rfl inlX3 (by decide) wd_fk_X3_52 hdg kk
theorem gf_X3_55 {p : Program} {l : Launch} {e : Env} {R : Room} {s : State} {m : MethodId} {args : Array Value} {below : List Frame} {meth : Method} {c : Code} {H : Heap} {locs : List Loc} {cells slots : Nat} {Q : State → Prop} {dC : Nat → ClassId} {dI : Nat → Nat → Nat} {cy : Nat → ClassId} {a : Nat → Nat} {cc : ByteArray} {nL : Nat} {ret : Option FieldType} {H0 : Heap} {M : Mem} {pc : Nat} {ls : Array Slot} {rest : List Value} {i : Nat} (X : XU dC dI cy a p s m c args meth cc nL RX3 ret) (hG : GU dC dI cy a H0 M H locs) (hT : K3 i) (hdg : decode cc pc = .ok (.getfield 55, 3)) (kk : W p l e R s m args below meth c H locs cells slots Q (F0 m (pc + 3) ls (.int (rd M i 10) :: rest))) : W p l e R s m args below meth c H locs cells slots Q (F0 m pc ls (.ref (a i) :: rest)) := mw_get (k := 10) X hG hT.1 rfl rfl inlX3 (by decide) wd_fk_X3_55 hdg kk
theorem gf_X3_58 {p : Program} {l : Launch} {e : Env} {R : Room} {s : State} {m : MethodId} {args : Array Value} {below : List Frame} {meth : Method} {c : Code} {H : Heap} {locs : List Loc} {cells slots : Nat} {Q : State → Prop} {dC : Nat → ClassId} {dI : Nat → Nat → Nat} {cy : Nat → ClassId} {a : Nat → Nat} {cc : ByteArray} {nL : Nat} {ret : Option FieldType} {H0 : Heap} {M : Mem} {pc : Nat} {ls : Array Slot} {rest : List Value} {i : Nat} (X : XU dC dI cy a p s m c args meth cc nL RX3 ret) (hG : GU dC dI cy a H0 M H locs) (hT : K3 i) (hdg : decode cc pc = .ok (.getfield 58, 3)) (kk : W p l e R s m args below meth c H locs cells slots Q (F0 m (pc + 3) ls (.int (rd M i 11) :: rest))) : W p l e R s m args below meth c H locs cells slots Q (F0 m pc ls (.ref (a i) :: rest)) := mw_get (k := 11) X hG hT.1 rfl rfl inlX3 (by decide) wd_fk_X3_58 hdg kk
theorem gf_X3_80 {p : Program} {l : Launch} {e : Env} {R : Room} {s : State} {m : MethodId} {args : Array Value} {below : List Frame} {meth : Method} {c : Code} {H : Heap} {locs : List Loc} {cells slots : Nat} {Q : State → Prop} {dC : Nat → ClassId} {dI : Nat → Nat → Nat} {cy : Nat → ClassId} {a : Nat → Nat} {cc : ByteArray} {nL : Nat} {ret : Option FieldType} {H0 : Heap} {M : Mem} {pc : Nat} {ls : Array Slot} {rest : List Value} {i : Nat} (X : XU dC dI cy a p s m c args meth cc nL RX3 ret) (hG : GU dC dI cy a H0 M H locs) (hT : K0 i) (hdg : decode cc pc = .ok (.getfield 80, 3)) (kk : W p l e R s m args below meth c H locs cells slots Q (F0 m (pc + 3) ls (.ref (a (i + 5)) :: rest))) : W p l e R s m args below meth c H locs cells slots Q (F0 m pc ls (.ref (a i) :: rest)) := mw_get (k := 4) X hG hT.1 rfl rfl inlX0 (by decide) wd_fk_X3_80 hdg kk
theorem gf_X3_111 {p : Program} {l : Launch} {e : Env} {R : Room} {s : State} {m : MethodId} {args : Array Value} {below : List Frame} {meth : Method} {c : Code} {H : Heap} {locs : List Loc} {cells slots : Nat} {Q : State → Prop} {dC : Nat → ClassId} {dI : Nat → Nat → Nat} {cy : Nat → ClassId} {a : Nat → Nat} {cc : ByteArray} {nL : Nat} {ret : Option FieldType} {H0 : Heap} {M : Mem} {pc : Nat} {ls : Array Slot} {rest : List Value} {i : Nat} (X : XU dC dI cy a p s m c args meth cc nL RX3 ret) (hG : GU dC dI cy a H0 M H locs) (hT : K0 i) (hdg : decode cc pc = .ok (.getfield 111, 3)) (kk : W p l e R s m args below meth c H locs cells slots Q (F0 m (pc + 3) ls (.ref (a (i + 4)) :: rest))) : W p l e R s m args below meth c H locs cells slots Q (F0 m pc ls (.ref (a i) :: rest)) := mw_get (k := 3) X hG hT.1 rfl rfl inlX0 (by decide) wd_fk_X3_111 hdg kk
theorem gf_X3_114 {p : Program} {l : Launch} {e : Env} {R : Room} {s : State} {m : MethodId} {args : Array Value} {below : List Frame} {meth : Method} {c : Code} {H : Heap} {locs : List Loc} {cells slots : Nat} {Q : State → Prop} {dC : Nat → ClassId} {dI : Nat → Nat → Nat} {cy : Nat → ClassId} {a : Nat → Nat} {cc : ByteArray} {nL : Nat} {ret : Option FieldType} {H0 : Heap} {M : Mem} {pc : Nat} {ls : Array Slot} {rest : List Value} {i : Nat} (X : XU dC dI cy a p s m c args meth cc nL RX3 ret) (hG : GU dC dI cy a H0 M H locs) (hT : K0 i) (hdg : decode cc pc = .ok (.getfield 114, 3)) (kk : W p l e R s m args below meth c H locs cells slots Q (F0 m (pc + 3) ls (.ref (a (i + 2)) :: rest))) : W p l e R s m args below meth c H locs cells slots Q (F0 m pc ls (.ref (a i) :: rest)) := mw_get (k := 1) X hG hT.1 rfl rfl inlX0 (by decide) wd_fk_X3_114 hdg kk
theorem gf_X3_117 {p : Program} {l : Launch} {e : Env} {R : Room} {s : State} {m : MethodId} {args : Array Value} {below : List Frame} {meth : Method} {c : Code} {H : Heap} {locs : List Loc} {cells slots : Nat} {Q : State → Prop} {dC : Nat → ClassId} {dI : Nat → Nat → Nat} {cy : Nat → ClassId} {a : Nat → Nat} {cc : ByteArray} {nL : Nat} {ret : Option FieldType} {H0 : Heap} {M : Mem} {pc : Nat} {ls : Array Slot} {rest : List Value} {i : Nat} (X : XU dC dI cy a p s m c args meth cc nL RX3 ret) (hG : GU dC dI cy a H0 M H locs) (hT : K0 i) (hdg : decode cc pc = .ok (.getfield 117, 3)) (kk : W p l e R s m args below meth c H locs cells slots Q (F0 m (pc + 3) ls (.ref (a (i + 6)) :: rest))) : W p l e R s m args below meth c H locs cells slots Q (F0 m pc ls (.ref (a i) :: rest)) := mw_get (k := 5) X hG hT.1 rfl rfl inlX0 (by decide) wd_fk_X3_117 hdg kk
theorem gf_X3_128 {p : Program} {l : Launch} {e : Env} {R : Room} {s : State} {m : MethodId} {args : Array Value} {below : List Frame} {meth : Method} {c : Code} {H : Heap} {locs : List Loc} {cells slots : Nat} {Q : State → Prop} {dC : Nat → ClassId} {dI : Nat → Nat → Nat} {cy : Nat → ClassId} {a : Nat → Nat} {cc : ByteArray} {nL : Nat} {ret : Option FieldType} {H0 : Heap} {M : Mem} {pc : Nat} {ls : Array Slot} {rest : List Value} {i : Nat} (X : XU dC dI cy a p s m c args meth cc nL RX3 ret) (hG : GU dC dI cy a H0 M H locs) (hT : K0 i) (hdg : decode cc pc = .ok (.getfield 128, 3)) (kk : W p l e R s m args below meth c H locs cells slots Q (F0 m (pc + 3) ls (.ref (a (i + 3)) :: rest))) : W p l e R s m args below meth c H locs cells slots Q (F0 m pc ls (.ref (a i) :: rest)) := mw_get (k := 2) X hG hT.1 rfl rfl inlX0 (by decide) wd_fk_X3_128 hdg kk
theorem gf_X3_131 {p : Program} {l : Launch} {e : Env} {R : Room} {s : State} {m : MethodId} {args : Array Value} {below : List Frame} {meth : Method} {c : Code} {H : Heap} {locs : List Loc} {cells slots : Nat} {Q : State → Prop} {dC : Nat → ClassId} {dI : Nat → Nat → Nat} {cy : Nat → ClassId} {a : Nat → Nat} {cc : ByteArray} {nL : Nat} {ret : Option FieldType} {H0 : Heap} {M : Mem} {pc : Nat} {ls : Array Slot} {rest : List Value} {i : Nat} (X : XU dC dI cy a p s m c args meth cc nL RX3 ret) (hG : GU dC dI cy a H0 M H locs) (hT : K0 i) (hdg : decode cc pc = .ok (.getfield 131, 3)) (kk : W p l e R s m args below meth c H locs cells slots Q (F0 m (pc + 3) ls (.ref (a (i + 1)) :: rest))) : W p l e R s m args below meth c H locs cells slots Q (F0 m pc ls (.ref (a i) :: rest)) := mw_get (k := 0) X hG hT.1 rfl rfl inlX0 (by decide) wd_fk_X3_131 hdg kk
theorem gf_X3_137 {p : Program} {l : Launch} {e : Env} {R : Room} {s : State} {m : MethodId} {args : Array Value} {below : List Frame} {meth : Method} {c : Code} {H : Heap} {locs : List Loc} {cells slots : Nat} {Q : State → Prop} {dC : Nat → ClassId} {dI : Nat → Nat → Nat} {cy : Nat → ClassId} {a : Nat → Nat} {cc : ByteArray} {nL : Nat} {ret : Option FieldType} {H0 : Heap} {M : Mem} {pc : Nat} {ls : Array Slot} {rest : List Value} {i : Nat} (X : XU dC dI cy a p s m c args meth cc nL RX3 ret) (hG : GU dC dI cy a H0 M H locs) (hT : K0 i) (hdg : decode cc pc = .ok (.getfield 137, 3)) (kk : W p l e R s m args below meth c H locs cells slots Q (F0 m (pc + 3) ls (.ref (a (i + 7)) :: rest))) : W p l e R s m args below meth c H locs cells slots Q (F0 m pc ls (.ref (a i) :: rest)) := mw_get (k := 6) X hG hT.1 rfl rfl inlX0 (by decide) wd_fk_X3_137 hdg kk
theorem gf_X4_10 {p : Program} {l : Launch} {e : Env} {R : Room} {s : State} {m : MethodId} {args : Array Value} {below : List Frame} {meth : Method} {c : Code} {H : Heap} {locs : List Loc} {cells slots : Nat} {Q : State → Prop} {dC : Nat → ClassId} {dI : Nat → Nat → Nat} {cy : Nat → ClassId} {a : Nat → Nat} {cc : ByteArray} {nL : Nat} {ret : Option FieldType} {H0 : Heap} {M : Mem} {pc : Nat} {ls : Array Slot} {rest : List Value} {i : Nat} (X : XU dC dI cy a p s m c args meth cc nL RX4 ret) (hG : GU dC dI cy a H0 M H locs) (hT : K4 i) (hdg : decode cc pc = .ok (.getfield 10, 3)) (kk : W p l e R s m args below meth c H locs cells slots Q (F0 m (pc + 3) ls (.ref (a (i + 1)) :: rest))) : W p l e R s m args below meth c H locs cells slots Q (F0 m pc ls (.ref (a i) :: rest)) := mw_get (k := 0) X hG hT.1 rfl rfl inlX4 (by decide) wd_fk_X4_10 hdg kk
theorem gf_X4_16 {p : Program} {l : Launch} {e : Env} {R : Room} {s : State} {m : MethodId} {args : Array Value} {below : List Frame} {meth : Method} {c : Code} {H : Heap} {locs : List Loc} {cells slots : Nat} {Q : State → Prop} {dC : Nat → ClassId} {dI : Nat → Nat → Nat} {cy : Nat → ClassId} {a : Nat → Nat} {cc : ByteArray} {nL : Nat} {ret : Option FieldType} {H0 : Heap} {M : Mem} {pc : Nat} {ls : Array Slot} {rest : List Value} {i : Nat} (X : XU dC dI cy a p s m c args meth cc nL RX4 ret) (hG : GU dC dI cy a H0 M H locs) (hT : K4 i) (hdg : decode cc pc = .ok (.getfield 16, 3)) (kk : W p l e R s m args below meth c H locs cells slots Q (F0 m (pc + 3) ls (.ref (a (i + 38)) :: rest))) : W p l e R s m args below meth c H locs cells slots Q (F0 m pc ls (.ref (a i) :: rest)) := mw_get (k := 1) X hG hT.1 rfl rfl inlX4 (by decide) wd_fk_X4_16 hdg kk
theorem gf_X4_19 {p : Program} {l : Launch} {e : Env} {R : Room} {s : State} {m : MethodId} {args : Array Value} {below : List Frame} {meth : Method} {c : Code} {H : Heap} {locs : List Loc} {cells slots : Nat} {Q : State → Prop} {dC : Nat → ClassId} {dI : Nat → Nat → Nat} {cy : Nat → ClassId} {a : Nat → Nat} {cc : ByteArray} {nL : Nat} {ret : Option FieldType} {H0 : Heap} {M : Mem} {pc : Nat} {ls : Array Slot} {rest : List Value} {i : Nat} (X : XU dC dI cy a p s m c args meth cc nL RX4 ret) (hG : GU dC dI cy a H0 M H locs) (hT : K4 i) (hdg : decode cc pc = .ok (.getfield 19, 3)) (kk : W p l e R s m args below meth c H locs cells slots Q (F0 m (pc + 3) ls (.ref (a (i + 75)) :: rest))) : W p l e R s m args below meth c H locs cells slots Q (F0 m pc ls (.ref (a i) :: rest)) := mw_get (k := 2) X hG hT.1 rfl rfl inlX4 (by decide) wd_fk_X4_19 hdg kk
theorem gf_X4_23 {p : Program} {l : Launch} {e : Env} {R : Room} {s : State} {m : MethodId} {args : Array Value} {below : List Frame} {meth : Method} {c : Code} {H : Heap} {locs : List Loc} {cells slots : Nat} {Q : State → Prop} {dC : Nat → ClassId} {dI : Nat → Nat → Nat} {cy : Nat → ClassId} {a : Nat → Nat} {cc : ByteArray} {nL : Nat} {ret : Option FieldType} {H0 : Heap} {M : Mem} {pc : Nat} {ls : Array Slot} {rest : List Value} {i : Nat} (X : XU dC dI cy a p s m c args meth cc nL RX4 ret) (hG : GU dC dI cy a H0 M H locs) (hT : K4 i) (hdg : decode cc pc = .ok (.getfield 23, 3)) (kk : W p l e R s m args below meth c H locs cells slots Q (F0 m (pc + 3) ls (.ref (a (i + 150)) :: rest))) : W p l e R s m args below meth c H locs cells slots Q (F0 m pc ls (.ref (a i) :: rest)) := mw_get (k := 3) X hG hT.1 rfl rfl inlX4 (by decide) wd_fk_X4_23 hdg kk
theorem gf_X4_30 {p : Program} {l : Launch} {e : Env} {R : Room} {s : State} {m : MethodId} {args : Array Value} {below : List Frame} {meth : Method} {c : Code} {H : Heap} {locs : List Loc} {cells slots : Nat} {Q : State → Prop} {dC : Nat → ClassId} {dI : Nat → Nat → Nat} {cy : Nat → ClassId} {a : Nat → Nat} {cc : ByteArray} {nL : Nat} {ret : Option FieldType} {H0 : Heap} {M : Mem} {pc : Nat} {ls : Array Slot} {rest : List Value} {i : Nat} (X : XU dC dI cy a p s m c args meth cc nL RX4 ret) (hG : GU dC dI cy a H0 M H locs) (hT : K4 i) (hdg : decode cc pc = .ok (.getfield 30, 3)) (kk : W p l e R s m args below meth c H locs cells slots Q (F0 m (pc + 3) ls (.ref (a (i + 151)) :: rest))) : W p l e R s m args below meth c H locs cells slots Q (F0 m pc ls (.ref (a i) :: rest)) := mw_get (k := 4) X hG hT.1 rfl rfl inlX4 (by decide) wd_fk_X4_30 hdg kk
theorem gf_X4_34 {p : Program} {l : Launch} {e : Env} {R : Room} {s : State} {m : MethodId} {args : Array Value} {below : List Frame} {meth : Method} {c : Code} {H : Heap} {locs : List Loc} {cells slots : Nat} {Q : State → Prop} {dC : Nat → ClassId} {dI : Nat → Nat → Nat} {cy : Nat → ClassId} {a : Nat → Nat} {cc : ByteArray} {nL : Nat} {ret : Option FieldType} {H0 : Heap} {M : Mem} {pc : Nat} {ls : Array Slot} {rest : List Value} {i : Nat} (X : XU dC dI cy a p s m c args meth cc nL RX4 ret) (hG : GU dC dI cy a H0 M H locs) (hT : K4 i) (hdg : decode cc pc = .ok (.getfield 34, 3)) (kk : W p l e R s m args below meth c H locs cells slots Q (F0 m (pc + 3) ls (.ref (a (i + 156)) :: rest))) : W p l e R s m args below meth c H locs cells slots Q (F0 m pc ls (.ref (a i) :: rest)) := mw_get (k := 5) X hG hT.1 rfl rfl inlX4 (by decide) wd_fk_X4_34 hdg kk
theorem gf_X4_43 {p : Program} {l : Launch} {e : Env} {R : Room} {s : State} {m : MethodId} {args : Array Value} {below : List Frame} {meth : Method} {c : Code} {H : Heap} {locs : List Loc} {cells slots : Nat} {Q : State → Prop} {dC : Nat → ClassId} {dI : Nat → Nat → Nat} {cy : Nat → ClassId} {a : Nat → Nat} {cc : ByteArray} {nL : Nat} {ret : Option FieldType} {H0 : Heap} {M : Mem} {pc : Nat} {ls : Array Slot} {rest : List Value} {i : Nat} (X : XU dC dI cy a p s m c args meth cc nL RX4 ret) (hG : GU dC dI cy a H0 M H locs) (hT : K3 i) (hdg : decode cc pc = .ok (.getfield 43, 3)) (kk : W p l e R s m args below meth c H locs cells slots Q (F0 m (pc + 3) ls (.int (rd M i 7) :: rest))) : W p l e R s m args below meth c H locs cells slots Q (F0 m pc ls (.ref (a i) :: rest)) := mw_get (k := 7) X hG hT.1 rfl rfl inlX3 (by decide) wd_fk_X4_43 hdg kk
theorem gf_X4_59 {p : Program} {l : Launch} {e : Env} {R : Room} {s : State} {m : MethodId} {args : Array Value} {below : List Frame} {meth : Method} {c : Code} {H : Heap} {locs : List Loc} {cells slots : Nat} {Q : State → Prop} {dC : Nat → ClassId} {dI : Nat → Nat → Nat} {cy : Nat → ClassId} {a : Nat → Nat} {cc : ByteArray} {nL : Nat} {ret : Option FieldType} {H0 : Heap} {M : Mem} {pc : Nat} {ls : Array Slot} {rest : List Value} {i : Nat} (X : XU dC dI cy a p s m c args meth cc nL RX4 ret) (hG : GU dC dI cy a H0 M H locs) (hT : K3 i) (hdg : decode cc pc = .ok (.getfield 59, 3)) (kk : W p l e R s m args below meth c H locs cells slots Q (F0 m (pc + 3) ls (.ref (a (i + 1)) :: rest))) : W p l e R s m args below meth c H locs cells slots Q (F0 m pc ls (.ref (a i) :: rest)) := mw_get (k := 0) X hG hT.1 rfl rfl inlX3 (by decide) wd_fk_X4_59 hdg kk
theorem gf_X4_74 {p : Program} {l : Launch} {e : Env} {R : Room} {s : State} {m : MethodId} {args : Array Value} {below : List Frame} {meth : Method} {c : Code} {H : Heap} {locs : List Loc} {cells slots : Nat} {Q : State → Prop} {dC : Nat → ClassId} {dI : Nat → Nat → Nat} {cy : Nat → ClassId} {a : Nat → Nat} {cc : ByteArray} {nL : Nat} {ret : Option FieldType} {H0 : Heap} {M : Mem} {pc : Nat} {ls : Array Slot} {rest : List Value} {i : Nat} (X : XU dC dI cy a p s m c args meth cc nL RX4 ret) (hG : GU dC dI cy a H0 M H locs) (hT : K0 i) (hdg : decode cc pc = .ok (.getfield 74, 3)) (kk : W p l e R s m args below meth c H locs cells slots Q (F0 m (pc + 3) ls (.int (rd M i 7) :: rest))) : W p l e R s m args below meth c H locs cells slots Q (F0 m pc ls (.ref (a i) :: rest)) := mw_get (k := 7) X hG hT.1 rfl rfl inlX0 (by decide) wd_fk_X4_74 hdg kk
theorem gf_X4_89 {p : Program} {l : Launch} {e : Env} {R : Room} {s : State} {m : MethodId} {args : Array Value} {below : List Frame} {meth : Method} {c : Code} {H : Heap} {locs : List Loc} {cells slots : Nat} {Q : State → Prop} {dC : Nat → ClassId} {dI : Nat → Nat → Nat} {cy : Nat → ClassId} {a : Nat → Nat} {cc : ByteArray} {nL : Nat} {ret : Option FieldType} {H0 : Heap} {M : Mem} {pc : Nat} {ls : Array Slot} {rest : List Value} {i : Nat} (X : XU dC dI cy a p s m c args meth cc nL RX4 ret) (hG : GU dC dI cy a H0 M H locs) (hT : K3 i) (hdg : decode cc pc = .ok (.getfield 89, 3)) (kk : W p l e R s m args below meth c H locs cells slots Q (F0 m (pc + 3) ls (.int (rd M i 6) :: rest))) : W p l e R s m args below meth c H locs cells slots Q (F0 m pc ls (.ref (a i) :: rest)) := mw_get (k := 6) X hG hT.1 rfl rfl inlX3 (by decide) wd_fk_X4_89 hdg kk
theorem gf_X4_93 {p : Program} {l : Launch} {e : Env} {R : Room} {s : State} {m : MethodId} {args : Array Value} {below : List Frame} {meth : Method} {c : Code} {H : Heap} {locs : List Loc} {cells slots : Nat} {Q : State → Prop} {dC : Nat → ClassId} {dI : Nat → Nat → Nat} {cy : Nat → ClassId} {a : Nat → Nat} {cc : ByteArray} {nL : Nat} {ret : Option FieldType} {H0 : Heap} {M : Mem} {pc : Nat} {ls : Array Slot} {rest : List Value} {i : Nat} (X : XU dC dI cy a p s m c args meth cc nL RX4 ret) (hG : GU dC dI cy a H0 M H locs) (hT : K3 i) (hdg : decode cc pc = .ok (.getfield 93, 3)) (kk : W p l e R s m args below meth c H locs cells slots Q (F0 m (pc + 3) ls (.int (rd M i 5) :: rest))) : W p l e R s m args below meth c H locs cells slots Q (F0 m pc ls (.ref (a i) :: rest)) := mw_get (k := 5) X hG hT.1 rfl rfl inlX3 (by decide) wd_fk_X4_93 hdg kk
theorem gf_X4_100 {p : Program} {l : Launch} {e : Env} {R : Room} {s : State} {m : MethodId} {args : Array Value} {below : List Frame} {meth : Method} {c : Code} {H : Heap} {locs : List Loc} {cells slots : Nat} {Q : State → Prop} {dC : Nat → ClassId} {dI : Nat → Nat → Nat} {cy : Nat → ClassId} {a : Nat → Nat} {cc : ByteArray} {nL : Nat} {ret : Option FieldType} {H0 : Heap} {M : Mem} {pc : Nat} {ls : Array Slot} {rest : List Value} {i : Nat} (X : XU dC dI cy a p s m c args meth cc nL RX4 ret) (hG : GU dC dI cy a H0 M H locs) (hT : K3 i) (hdg : decode cc pc = .ok (.getfield 100, 3)) (kk : W p l e R s m args below meth c H locs cells slots Q (F0 m (pc + 3) ls (.ref (a (i + 11)) :: rest))) : W p l e R s m args below meth c H locs cells slots Q (F0 m pc ls (.ref (a i) :: rest)) := mw_get (k := 4) X hG hT.1 rfl rfl inlX3 (by decide) wd_fk_X4_100 hdg kk
theorem gf_X4_123 {p : Program} {l : Launch} {e : Env} {R : Room} {s : State} {m : MethodId} {args : Array Value} {below : List Frame} {meth : Method} {c : Code} {H : Heap} {locs : List Loc} {cells slots : Nat} {Q : State → Prop} {dC : Nat → ClassId} {dI : Nat → Nat → Nat} {cy : Nat → ClassId} {a : Nat → Nat} {cc : ByteArray} {nL : Nat} {ret : Option FieldType} {H0 : Heap} {M : Mem} {pc : Nat} {ls : Array Slot} {rest : List Value} {i : Nat} (X : XU dC dI cy a p s m c args meth cc nL RX4 ret) (hG : GU dC dI cy a H0 M H locs) (hT : K3 i) (hdg : decode cc pc = .ok (.getfield 123, 3)) (kk : W p l e R s m args below meth c H locs cells slots Q (F0 m (pc + 3) ls (.int (rd M i 8) :: rest))) : W p l e R s m args below meth c H locs cells slots Q (F0 m pc ls (.ref (a i) :: rest)) := mw_get (k := 8) X hG hT.1 rfl rfl inlX3 (by decide) wd_fk_X4_123 hdg kk
theorem gf_X4_126 {p : Program} {l : Launch} {e : Env} {R : Room} {s : State} {m : MethodId} {args : Array Value} {below : List Frame} {meth : Method} {c : Code} {H : Heap} {locs : List Loc} {cells slots : Nat} {Q : State → Prop} {dC : Nat → ClassId} {dI : Nat → Nat → Nat} {cy : Nat → ClassId} {a : Nat → Nat} {cc : ByteArray} {nL : Nat} {ret : Option FieldType} {H0 : Heap} {M : Mem} {pc : Nat} {ls : Array Slot} {rest : List Value} {i : Nat} (X : XU dC dI cy a p s m c args meth cc nL RX4 ret) (hG : GU dC dI cy a H0 M H locs) (hT : K3 i) (hdg : decode cc pc = .ok (.getfield 126, 3)) (kk : W p l e R s m args below meth c H locs cells slots Q (F0 m (pc + 3) ls (.int (rd M i 9) :: rest))) : W p l e R s m args below meth c H locs cells slots Q (F0 m pc ls (.ref (a i) :: rest)) := mw_get (k := 9) X hG hT.1 rfl rfl inlX3 (by decide) wd_fk_X4_126 hdg kk
theorem gf_X4_129 {p : Program} {l : Launch} {e : Env} {R : Room} {s : State} {m : MethodId} {args : Array Value} {below : List Frame} {meth : Method} {c : Code} {H : Heap} {locs : List Loc} {cells slots : Nat} {Q : State → Prop} {dC : Nat → ClassId} {dI : Nat → Nat → Nat} {cy : Nat → ClassId} {a : Nat → Nat} {cc : ByteArray} {nL : Nat} {ret : Option FieldType} {H0 : Heap} {M : Mem} {pc : Nat} {ls : Array Slot} {rest : List Value} {i : Nat} (X : XU dC dI cy a p s m c args meth cc nL RX4 ret) (hG : GU dC dI cy a H0 M H locs) (hT : K3 i) (hdg : decode cc pc = .ok (.getfield 129, 3)) (kk : W p l e R s m args below meth c H locs cells slots Q (F0 m (pc + 3) ls (.int (rd M i 10) :: rest))) : W p l e R s m args below meth c H locs cells slots Q (F0 m pc ls (.ref (a i) :: rest)) := mw_get (k := 10) X hG hT.1 rfl rfl inlX3 (by decide) wd_fk_X4_129 hdg kk
theorem gf_X4_135 {p : Program} {l : Launch} {e : Env} {R : Room} {s : State} {m : MethodId} {args : Array Value} {below : List Frame} {meth : Method} {c : Code} {H : Heap} {locs : List Loc} {cells slots : Nat} {Q : State → Prop} {dC : Nat → ClassId} {dI : Nat → Nat → Nat} {cy : Nat → ClassId} {a : Nat → Nat} {cc : ByteArray} {nL : Nat} {ret : Option FieldType} {H0 : Heap} {M : Mem} {pc : Nat} {ls : Array Slot} {rest : List Value} {i : Nat} (X : XU dC dI cy a p s m c args meth cc nL RX4 ret) (hG : GU dC dI cy a H0 M H locs) (hT : K1 i) (hdg : decode cc pc = .ok (.getfield 135, 3)) (kk : W p l e R s m args below meth c H locs cells slots Q (F0 m (pc + 3) ls (.int (rd M i 4) :: rest))) : W p l e R s m args below meth c H locs cells slots Q (F0 m pc ls (.ref (a i) :: rest)) := mw_get (k := 4) X hG hT.1 rfl rfl inlX1 (by decide) wd_fk_X4_135 hdg kk
theorem gf_X4_140 {p : Program} {l : Launch} {e : Env} {R : Room} {s : State} {m : MethodId} {args : Array Value} {below : List Frame} {meth : Method} {c : Code} {H : Heap} {locs : List Loc} {cells slots : Nat} {Q : State → Prop} {dC : Nat → ClassId} {dI : Nat → Nat → Nat} {cy : Nat → ClassId} {a : Nat → Nat} {cc : ByteArray} {nL : Nat} {ret : Option FieldType} {H0 : Heap} {M : Mem} {pc : Nat} {ls : Array Slot} {rest : List Value} {i : Nat} (X : XU dC dI cy a p s m c args meth cc nL RX4 ret) (hG : GU dC dI cy a H0 M H locs) (hT : K3 i) (hdg : decode cc pc = .ok (.getfield 140, 3)) (kk : W p l e R s m args below meth c H locs cells slots Q (F0 m (pc + 3) ls (.int (rd M i 11) :: rest))) : W p l e R s m args below meth c H locs cells slots Q (F0 m pc ls (.ref (a i) :: rest)) := mw_get (k := 11) X hG hT.1 rfl rfl inlX3 (by decide) wd_fk_X4_140 hdg kk
theorem gf_X4_146 {p : Program} {l : Launch} {e : Env} {R : Room} {s : State} {m : MethodId} {args : Array Value} {below : List Frame} {meth : Method} {c : Code} {H : Heap} {locs : List Loc} {cells slots : Nat} {Q : State → Prop} {dC : Nat → ClassId} {dI : Nat → Nat → Nat} {cy : Nat → ClassId} {a : Nat → Nat} {cc : ByteArray} {nL : Nat} {ret : Option FieldType} {H0 : Heap} {M : Mem} {pc : Nat} {ls : Array Slot} {rest : List Value} {i : Nat} (X : XU dC dI cy a p s m c args meth cc nL RX4 ret) (hG : GU dC dI cy a H0 M H locs) (hT : K3 i) (hdg : decode cc pc = .ok (.getfield 146, 3)) (kk : W p l e R s m args below meth c H locs cells slots Q (F0 m (pc + 3) ls (.ref (a (i + 9)) :: rest))) : W p l e R s m args below meth c H locs cells slots Q (F0 m pc ls (.ref (a i) :: rest)) := mw_get (k := 2) X hG hT.1 rfl rfl inlX3 (by decide) wd_fk_X4_146 hdg kk
theorem gf_X4_149 {p : Program} {l : Launch} {e : Env} {R : Room} {s : State} {m : MethodId} {args : Array Value} {below : List Frame} {meth : Method} {c : Code} {H : Heap} {locs : List Loc} {cells slots : Nat} {Q : State → Prop} {dC : Nat → ClassId} {dI : Nat → Nat → Nat} {cy : Nat → ClassId} {a : Nat → Nat} {cc : ByteArray} {nL : Nat} {ret : Option FieldType} {H0 : Heap} {M : Mem} {pc : Nat} {ls : Array Slot} {rest : List Value} {i : Nat} (X : XU dC dI cy a p s m c args meth cc nL RX4 ret) (hG : GU dC dI cy a H0 M H locs) (hT : K3 i) (hdg : decode cc pc = .ok (.getfield 149, 3)) (kk : W p l e R s m args below meth c H locs cells slots Q (F0 m (pc + 3) ls (.ref (a (i + 10)) :: rest))) : W p l e R s m args below meth c H locs cells slots Q (F0 m pc ls (.ref (a i) :: rest)) := mw_get (k := 3) X hG hT.1 rfl rfl inlX3 (by decide) wd_fk_X4_149 hdg kk
theorem gf_X4_156 {p : Program} {l : Launch} {e : Env} {R : Room} {s : State} {m : MethodId} {args : Array Value} {below : List Frame} {meth : Method} {c : Code} {H : Heap} {locs : List Loc} {cells slots : Nat} {Q : State → Prop} {dC : Nat → ClassId} {dI : Nat → Nat → Nat} {cy : Nat → ClassId} {a : Nat → Nat} {cc : ByteArray} {nL : Nat} {ret : Option FieldType} {H0 : Heap} {M : Mem} {pc : Nat} {ls : Array Slot} {rest : List Value} {i : Nat} (X : XU dC dI cy a p s m c args meth cc nL RX4 ret) (hG : GU dC dI cy a H0 M H locs) (hT : K3 i) (hdg : decode cc pc = .ok (.getfield 156, 3)) (kk : W p l e R s m args below meth c H locs cells slots Q (F0 m (pc + 3) ls (.ref (a (i + 12)) :: rest))) : W p l e R s m args below meth c H locs cells slots Q (F0 m pc ls (.ref (a i) :: rest)) := mw_get (k := 1) X hG hT.1 rfl rfl inlX3 (by decide) wd_fk_X4_156 hdg kk
theorem gf_X4_160 {p : Program} {l : Launch} {e : Env} {R : Room} {s : State} {m : MethodId} {args : Array Value} {below : List Frame} {meth : Method} {c : Code} {H : Heap} {locs : List Loc} {cells slots : Nat} {Q : State → Prop} {dC : Nat → ClassId} {dI : Nat → Nat → Nat} {cy : Nat → ClassId} {a : Nat → Nat} {cc : ByteArray} {nL : Nat} {ret : Option FieldType} {H0 : Heap} {M : Mem} {pc : Nat} {ls : Array Slot} {rest : List Value} {i : Nat} (X : XU dC dI cy a p s m c args meth cc nL RX4 ret) (hG : GU dC dI cy a H0 M H locs) (hT : K2 i) (hdg : decode cc pc = .ok (.getfield 160, 3)) (kk : W p l e R s m args below meth c H locs cells slots Q (F0 m (pc + 3) ls (.int (rd M i 3) :: rest))) : W p l e R s m args below meth c H locs cells slots Q (F0 m pc ls (.ref (a i) :: rest)) := mw_get (k := 3) X hG hT.1 rfl rfl inlX2 (by decide) wd_fk_X4_160 hdg kk
theorem gf_X4_181 {p : Program} {l : Launch} {e : Env} {R : Room} {s : State} {m : MethodId} {args : Array Value} {below : List Frame} {meth : Method} {c : Code} {H : Heap} {locs : List Loc} {cells slots : Nat} {Q : State → Prop} {dC : Nat → ClassId} {dI : Nat → Nat → Nat} {cy : Nat → ClassId} {a : Nat → Nat} {cc : ByteArray} {nL : Nat} {ret : Option FieldType} {H0 : Heap} {M : Mem} {pc : Nat} {ls : Array Slot} {rest : List Value} {i : Nat} (X : XU dC dI cy a p s m c args meth cc nL RX4 ret) (hG : GU dC dI cy a H0 M H locs) (hT : K0 i) (hdg : decode cc pc = .ok (.getfield 181, 3)) (kk : W p l e R s m args below meth c H locs cells slots Q (F0 m (pc + 3) ls (.ref (a (i + 1)) :: rest))) : W p l e R s m args below meth c H locs cells slots Q (F0 m pc ls (.ref (a i) :: rest)) := mw_get (k := 0) X hG hT.1 rfl rfl inlX0 (by decide) wd_fk_X4_181 hdg kk
theorem gf_X4_184 {p : Program} {l : Launch} {e : Env} {R : Room} {s : State} {m : MethodId} {args : Array Value} {below : List Frame} {meth : Method} {c : Code} {H : Heap} {locs : List Loc} {cells slots : Nat} {Q : State → Prop} {dC : Nat → ClassId} {dI : Nat → Nat → Nat} {cy : Nat → ClassId} {a : Nat → Nat} {cc : ByteArray} {nL : Nat} {ret : Option FieldType} {H0 : Heap} {M : Mem} {pc : Nat} {ls : Array Slot} {rest : List Value} {i : Nat} (X : XU dC dI cy a p s m c args meth cc nL RX4 ret) (hG : GU dC dI cy a H0 M H locs) (hT : K0 i) (hdg : decode cc pc = .ok (.getfield 184, 3)) (kk : W p l e R s m args below meth c H locs cells slots Q (F0 m (pc + 3) ls (.ref (a (i + 2)) :: rest))) : W p l e R s m args below meth c H locs cells slots Q (F0 m pc ls (.ref (a i) :: rest)) := mw_get (k := 1) X hG hT.1 rfl rfl inlX0 (by decide) wd_fk_X4_184 hdg kk
theorem gf_X4_187 {p : Program} {l : Launch} {e : Env} {R : Room} {s : State} {m : MethodId} {args : Array Value} {below : List Frame} {meth : Method} {c : Code} {H : Heap} {locs : List Loc} {cells slots : Nat} {Q : State → Prop} {dC : Nat → ClassId} {dI : Nat → Nat → Nat} {cy : Nat → ClassId} {a : Nat → Nat} {cc : ByteArray} {nL : Nat} {ret : Option FieldType} {H0 : Heap} {M : Mem} {pc : Nat} {ls : Array Slot} {rest : List Value} {i : Nat} (X : XU dC dI cy a p s m c args meth cc nL RX4 ret) (hG : GU dC dI cy a H0 M H locs) (hT : K0 i) (hdg : decode cc pc = .ok (.getfield 187, 3)) (kk : W p l e R s m args below meth c H locs cells slots Q (F0 m (pc + 3) ls (.ref (a (i + 3)) :: rest))) : W p l e R s m args below meth c H locs cells slots Q (F0 m pc ls (.ref (a i) :: rest)) := mw_get (k := 2) X hG hT.1 rfl rfl inlX0 (by decide) wd_fk_X4_187 hdg kk
theorem gf_X4_190 {p : Program} {l : Launch} {e : Env} {R : Room} {s : State} {m : MethodId} {args : Array Value} {below : List Frame} {meth : Method} {c : Code} {H : Heap} {locs : List Loc} {cells slots : Nat} {Q : State → Prop} {dC : Nat → ClassId} {dI : Nat → Nat → Nat} {cy : Nat → ClassId} {a : Nat → Nat} {cc : ByteArray} {nL : Nat} {ret : Option FieldType} {H0 : Heap} {M : Mem} {pc : Nat} {ls : Array Slot} {rest : List Value} {i : Nat} (X : XU dC dI cy a p s m c args meth cc nL RX4 ret) (hG : GU dC dI cy a H0 M H locs) (hT : K0 i) (hdg : decode cc pc = .ok (.getfield 190, 3)) (kk : W p l e R s m args below meth c H locs cells slots Q (F0 m (pc + 3) ls (.ref (a (i + 4)) :: rest))) : W p l e R s m args below meth c H locs cells slots Q (F0 m pc ls (.ref (a i) :: rest)) := mw_get (k := 3) X hG hT.1 rfl rfl inlX0 (by decide) wd_fk_X4_190 hdg kk
theorem gf_X4_193 {p : Program} {l : Launch} {e : Env} {R : Room} {s : State} {m : MethodId} {args : Array Value} {below : List Frame} {meth : Method} {c : Code} {H : Heap} {locs : List Loc} {cells slots : Nat} {Q : State → Prop} {dC : Nat → ClassId} {dI : Nat → Nat → Nat} {cy : Nat → ClassId} {a : Nat → Nat} {cc : ByteArray} {nL : Nat} {ret : Option FieldType} {H0 : Heap} {M : Mem} {pc : Nat} {ls : Array Slot} {rest : List Value} {i : Nat} (X : XU dC dI cy a p s m c args meth cc nL RX4 ret) (hG : GU dC dI cy a H0 M H locs) (hT : K0 i) (hdg : decode cc pc = .ok (.getfield 193, 3)) (kk : W p l e R s m args below meth c H locs cells slots Q (F0 m (pc + 3) ls (.ref (a (i + 5)) :: rest))) : W p l e R s m args below meth c H locs cells slots Q (F0 m pc ls (.ref (a i) :: rest)) := mw_get (k := 4) X hG hT.1 rfl rfl inlX0 (by decide) wd_fk_X4_193 hdg kk
theorem gf_X4_196 {p : Program} {l : Launch} {e : Env} {R : Room} {s : State} {m : MethodId} {args : Array Value} {below : List Frame} {meth : Method} {c : Code} {H : Heap} {locs : List Loc} {cells slots : Nat} {Q : State → Prop} {dC : Nat → ClassId} {dI : Nat → Nat → Nat} {cy : Nat → ClassId} {a : Nat → Nat} {cc : ByteArray} {nL : Nat} {ret : Option FieldType} {H0 : Heap} {M : Mem} {pc : Nat} {ls : Array Slot} {rest : List Value} {i : Nat} (X : XU dC dI cy a p s m c args meth cc nL RX4 ret) (hG : GU dC dI cy a H0 M H locs) (hT : K0 i) (hdg : decode cc pc = .ok (.getfield 196, 3)) (kk : W p l e R s m args below meth c H locs cells slots Q (F0 m (pc + 3) ls (.ref (a (i + 6)) :: rest))) : W p l e R s m args below meth c H locs cells slots Q (F0 m pc ls (.ref (a i) :: rest)) := mw_get (k := 5) X hG hT.1 rfl rfl inlX0 (by decide) wd_fk_X4_196 hdg kk
theorem gf_X4_199 {p : Program} {l : Launch} {e : Env} {R : Room} {s : State} {m : MethodId} {args : Array Value} {below : List Frame} {meth : Method} {c : Code} {H : Heap} {locs : List Loc} {cells slots : Nat} {Q : State → Prop} {dC : Nat → ClassId} {dI : Nat → Nat → Nat} {cy : Nat → ClassId} {a : Nat → Nat} {cc : ByteArray} {nL : Nat} {ret : Option FieldType} {H0 : Heap} {M : Mem} {pc : Nat} {ls : Array Slot} {rest : List Value} {i : Nat} (X : XU dC dI cy a p s m c args meth cc nL RX4 ret) (hG : GU dC dI cy a H0 M H locs) (hT : K0 i) (hdg : decode cc pc = .ok (.getfield 199, 3)) (kk : W p l e R s m args below meth c H locs cells slots Q (F0 m (pc + 3) ls (.ref (a (i + 7)) :: rest))) : W p l e R s m args below meth c H locs cells slots Q (F0 m pc ls (.ref (a i) :: rest)) := mw_get (k := 6) X hG hT.1 rfl rfl inlX0 (by decide) wd_fk_X4_199 hdg kk
theorem gf_X4_202 {p : Program} {l : Launch} {e : Env} {R : Room} {s : State} {m : MethodId} {args : Array Value} {below : List Frame} {meth : Method} {c : Code} {H : Heap} {locs : List Loc} {cells slots : Nat} {Q : State → Prop} {dC : Nat → ClassId} {dI : Nat → Nat → Nat} {cy : Nat → ClassId} {a : Nat → Nat} {cc : ByteArray} {nL : Nat} {ret : Option FieldType} {H0 : Heap} {M : Mem} {pc : Nat} {ls : Array Slot} {rest : List Value} {i : Nat} (X : XU dC dI cy a p s m c args meth cc nL RX4 ret) (hG : GU dC dI cy a H0 M H locs) (hT : K1 i) (hdg : decode cc pc = .ok (.getfield 202, 3)) (kk : W p l e R s m args below meth c H locs cells slots Q (F0 m (pc + 3) ls (.ref (a (i + 1)) :: rest))) : W p l e R s m args below meth c H locs cells slots Q (F0 m pc ls (.ref (a i) :: rest)) := mw_get (k := 0) X hG hT.1 rfl rfl inlX1 (by decide) wd_fk_X4_202 hdg kk
theorem gf_X4_205 {p : Program} {l : Launch} {e : Env} {R : Room} {s : State} {m : MethodId} {args : Array Value} {below : List Frame} {meth : Method} {c : Code} {H : Heap} {locs : List Loc} {cells slots : Nat} {Q : State → Prop} {dC : Nat → ClassId} {dI : Nat → Nat → Nat} {cy : Nat → ClassId} {a : Nat → Nat} {cc : ByteArray} {nL : Nat} {ret : Option FieldType} {H0 : Heap} {M : Mem} {pc : Nat} {ls : Array Slot} {rest : List Value} {i : Nat} (X : XU dC dI cy a p s m c args meth cc nL RX4 ret) (hG : GU dC dI cy a H0 M H locs) (hT : K1 i) (hdg : decode cc pc = .ok (.getfield 205, 3)) (kk : W p l e R s m args below meth c H locs cells slots Q (F0 m (pc + 3) ls (.ref (a (i + 2)) :: rest))) : W p l e R s m args below meth c H locs cells slots Q (F0 m pc ls (.ref (a i) :: rest)) := mw_get (k := 1) X hG hT.1 rfl rfl inlX1 (by decide) wd_fk_X4_205 hdg kk
theorem gf_X4_208 {p : Program} {l : Launch} {e : Env} {R : Room} {s : State} {m : MethodId} {args : Array Value} {below : List Frame} {meth : Method} {c : Code} {H : Heap} {locs : List Loc} {cells slots : Nat} {Q : State → Prop} {dC : Nat → ClassId} {dI : Nat → Nat → Nat} {cy : Nat → ClassId} {a : Nat → Nat} {cc : ByteArray} {nL : Nat} {ret : Option FieldType} {H0 : Heap} {M : Mem} {pc : Nat} {ls : Array Slot} {rest : List Value} {i : Nat} (X : XU dC dI cy a p s m c args meth cc nL RX4 ret) (hG : GU dC dI cy a H0 M H locs) (hT : K1 i) (hdg : decode cc pc = .ok (.getfield 208, 3)) (kk : W p l e R s m args below meth c H locs cells slots Q (F0 m (pc + 3) ls (.ref (a (i + 3)) :: rest))) : W p l e R s m args below meth c H locs cells slots Q (F0 m pc ls (.ref (a i) :: rest)) := mw_get (k := 2) X hG hT.1 rfl rfl inlX1 (by decide) wd_fk_X4_208 hdg kk
theorem gf_X4_211 {p : Program} {l : Launch} {e : Env} {R : Room} {s : State} {m : MethodId} {args : Array Value} {below : List Frame} {meth : Method} {c : Code} {H : Heap} {locs : List Loc} {cells slots : Nat} {Q : State → Prop} {dC : Nat → ClassId} {dI : Nat → Nat → Nat} {cy : Nat → ClassId} {a : Nat → Nat} {cc : ByteArray} {nL : Nat} {ret : Option FieldType} {H0 : Heap} {M : Mem} {pc : Nat} {ls : Array Slot} {rest : List Value} {i : Nat} (X : XU dC dI cy a p s m c args meth cc nL RX4 ret) (hG : GU dC dI cy a H0 M H locs) (hT : K1 i) (hdg : decode cc pc = .ok (.getfield 211, 3)) (kk : W p l e R s m args below meth c H locs cells slots Q (F0 m (pc + 3) ls (.ref (a (i + 4)) :: rest))) : W p l e R s m args below meth c H locs cells slots Q (F0 m pc ls (.ref (a i) :: rest)) := mw_get (k := 3) X hG hT.1 rfl rfl inlX1 (by decide) wd_fk_X4_211 hdg kk
theorem gf_X5_7 {p : Program} {l : Launch} {e : Env} {R : Room} {s : State} {m : MethodId} {args : Array Value} {below : List Frame} {meth : Method} {c : Code} {H : Heap} {locs : List Loc} {cells slots : Nat} {Q : State → Prop} {dC : Nat → ClassId} {dI : Nat → Nat → Nat} {cy : Nat → ClassId} {a : Nat → Nat} {cc : ByteArray} {nL : Nat} {ret : Option FieldType} {H0 : Heap} {M : Mem} {pc : Nat} {ls : Array Slot} {rest : List Value} {i : Nat} (X : XU dC dI cy a p s m c args meth cc nL RX5 ret) (hG : GU dC dI cy a H0 M H locs) (hT : K5 i) (hdg : decode cc pc = .ok (.getfield 7, 3)) (kk : W p l e R s m args below meth c H locs cells slots Q (F0 m (pc + 3) ls (.ref (a (i + 1)) :: rest))) : W p l e R s m args below meth c H locs cells slots Q (F0 m pc ls (.ref (a i) :: rest)) := mw_get (k := 0) X hG hT.1 rfl rfl inlX5 (by decide) wd_fk_X5_7 hdg kk
theorem gf_X5_13 {p : Program} {l : Launch} {e : Env} {R : Room} {s : State} {m : MethodId} {args : Array Value} {below : List Frame} {meth : Method} {c : Code} {H : Heap} {locs : List Loc} {cells slots : Nat} {Q : State → Prop} {dC : Nat → ClassId} {dI : Nat → Nat → Nat} {cy : Nat → ClassId} {a : Nat → Nat} {cc : ByteArray} {nL : Nat} {ret : Option FieldType} {H0 : Heap} {M : Mem} {pc : Nat} {ls : Array Slot} {rest : List Value} {i : Nat} (X : XU dC dI cy a p s m c args meth cc nL RX5 ret) (hG : GU dC dI cy a H0 M H locs) (hT : K5 i) (hdg : decode cc pc = .ok (.getfield 13, 3)) (kk : W p l e R s m args below meth c H locs cells slots Q (F0 m (pc + 3) ls (.ref (a (i + 2)) :: rest))) : W p l e R s m args below meth c H locs cells slots Q (F0 m pc ls (.ref (a i) :: rest)) := mw_get (k := 1) X hG hT.1 rfl rfl inlX5 (by decide) wd_fk_X5_13 hdg kk
theorem gf_X5_17 {p : Program} {l : Launch} {e : Env} {R : Room} {s : State} {m : MethodId} {args : Array Value} {below : List Frame} {meth : Method} {c : Code} {H : Heap} {locs : List Loc} {cells slots : Nat} {Q : State → Prop} {dC : Nat → ClassId} {dI : Nat → Nat → Nat} {cy : Nat → ClassId} {a : Nat → Nat} {cc : ByteArray} {nL : Nat} {ret : Option FieldType} {H0 : Heap} {M : Mem} {pc : Nat} {ls : Array Slot} {rest : List Value} {i : Nat} (X : XU dC dI cy a p s m c args meth cc nL RX5 ret) (hG : GU dC dI cy a H0 M H locs) (hT : K5 i) (hdg : decode cc pc = .ok (.getfield 17, 3)) (kk : W p l e R s m args below meth c H locs cells slots Q (F0 m (pc + 3) ls (.ref (a (i + 3)) :: rest))) : W p l e R s m args below meth c H locs cells slots Q (F0 m pc ls (.ref (a i) :: rest)) := mw_get (k := 3) X hG hT.1 rfl rfl inlX5 (by decide) wd_fk_X5_17 hdg kk
theorem gf_X5_20 {p : Program} {l : Launch} {e : Env} {R : Room} {s : State} {m : MethodId} {args : Array Value} {below : List Frame} {meth : Method} {c : Code} {H : Heap} {locs : List Loc} {cells slots : Nat} {Q : State → Prop} {dC : Nat → ClassId} {dI : Nat → Nat → Nat} {cy : Nat → ClassId} {a : Nat → Nat} {cc : ByteArray} {nL : Nat} {ret : Option FieldType} {H0 : Heap} {M : Mem} {pc : Nat} {ls : Array Slot} {rest : List Value} {i : Nat} (X : XU dC dI cy a p s m c args meth cc nL RX5 ret) (hG : GU dC dI cy a H0 M H locs) (hT : K5 i) (hdg : decode cc pc = .ok (.getfield 20, 3)) (kk : W p l e R s m args below meth c H locs cells slots Q (F0 m (pc + 3) ls (.ref (a (i + 4)) :: rest))) : W p l e R s m args below meth c H locs cells slots Q (F0 m pc ls (.ref (a i) :: rest)) := mw_get (k := 5) X hG hT.1 rfl rfl inlX5 (by decide) wd_fk_X5_20 hdg kk
theorem gf_X5_30 {p : Program} {l : Launch} {e : Env} {R : Room} {s : State} {m : MethodId} {args : Array Value} {below : List Frame} {meth : Method} {c : Code} {H : Heap} {locs : List Loc} {cells slots : Nat} {Q : State → Prop} {dC : Nat → ClassId} {dI : Nat → Nat → Nat} {cy : Nat → ClassId} {a : Nat → Nat} {cc : ByteArray} {nL : Nat} {ret : Option FieldType} {H0 : Heap} {M : Mem} {pc : Nat} {ls : Array Slot} {rest : List Value} {i : Nat} (X : XU dC dI cy a p s m c args meth cc nL RX5 ret) (hG : GU dC dI cy a H0 M H locs) (hT : K5 i) (hdg : decode cc pc = .ok (.getfield 30, 3)) (kk : W p l e R s m args below meth c H locs cells slots Q (F0 m (pc + 3) ls (.int (rd M i 2) :: rest))) : W p l e R s m args below meth c H locs cells slots Q (F0 m pc ls (.ref (a i) :: rest)) := mw_get (k := 2) X hG hT.1 rfl rfl inlX5 (by decide) wd_fk_X5_30 hdg kk
theorem gf_X5_65 {p : Program} {l : Launch} {e : Env} {R : Room} {s : State} {m : MethodId} {args : Array Value} {below : List Frame} {meth : Method} {c : Code} {H : Heap} {locs : List Loc} {cells slots : Nat} {Q : State → Prop} {dC : Nat → ClassId} {dI : Nat → Nat → Nat} {cy : Nat → ClassId} {a : Nat → Nat} {cc : ByteArray} {nL : Nat} {ret : Option FieldType} {H0 : Heap} {M : Mem} {pc : Nat} {ls : Array Slot} {rest : List Value} {i : Nat} (X : XU dC dI cy a p s m c args meth cc nL RX5 ret) (hG : GU dC dI cy a H0 M H locs) (hT : K5 i) (hdg : decode cc pc = .ok (.getfield 65, 3)) (kk : W p l e R s m args below meth c H locs cells slots Q (F0 m (pc + 3) ls (.long (rdJ M) :: rest))) : W p l e R s m args below meth c H locs cells slots Q (F0 m pc ls (.ref (a i) :: rest)) := mw_get (k := 4) X hG hT.1 rfl rfl inlX5 (by decide) wd_fk_X5_65 hdg kk
theorem pf_X0_33 {p : Program} {l : Launch} {e : Env} {R : Room} {s : State} {m : MethodId} {args : Array Value} {below : List Frame} {meth : Method} {c : Code} {H : Heap} {locs : List Loc} {cells slots : Nat} {Q : State → Prop} {dC : Nat → ClassId} {dI : Nat → Nat → Nat} {cy : Nat → ClassId} {a : Nat → Nat} {cc : ByteArray} {nL : Nat} {ret : Option FieldType} {H0 : Heap} {M : Mem} {pc : Nat} {ls : Array Slot} {rest : List Value} {i : Nat} {v : Int32} (X : XU dC dI cy a p s m c args meth cc nL RX0 ret) (hG : GU dC dI cy a H0 M H locs) (hT : K0 i) (hdg : decode cc pc = .ok (.putfield 33, 3)) (kk : ∀ (M1 : Mem) (H1 : Heap) (locs1 : List Loc), M1 = wr M i 7 v → GU dC dI cy a H0 M1 H1 locs1 → W p l e R s m args below meth c H1 locs1 cells slots Q (F0 m (pc + 3) ls rest)) : W p l e R s m args below meth c H locs cells slots Q (F0 m pc ls (.int v :: .ref (a i) :: rest)) := mw_put (k := 7) X hG tyX0_ok nmX0 hT.1 rfl rfl inlX0 (by decide) wd_fk_X0_33 rfl (by decide +kernel) hdg kk
theorem pf_X1_24 {p : Program} {l : Launch} {e : Env} {R : Room} {s : State} {m : MethodId} {args : Array Value} {below : List Frame} {meth : Method} {c : Code} {H : Heap} {locs : List Loc} {cells slots : Nat} {Q : State → Prop} {dC : Nat → ClassId} {dI : Nat → Nat → Nat} {cy : Nat → ClassId} {a : Nat → Nat} {cc : ByteArray} {nL : Nat} {ret : Option FieldType} {H0 : Heap} {M : Mem} {pc : Nat} {ls : Array Slot} {rest : List Value} {i : Nat} {v : Int32} (X : XU dC dI cy a p s m c args meth cc nL RX1 ret) (hG : GU dC dI cy a H0 M H locs) (hT : K1 i) (hdg : decode cc pc = .ok (.putfield 24, 3)) (kk : ∀ (M1 : Mem) (H1 : Heap) (locs1 : List Loc), M1 = wr M i 4 v → GU dC dI cy a H0 M1 H1 locs1 → W p l e R s m args below meth c H1 locs1 cells slots Q (F0 m (pc + 3) ls rest)) : W p l e R s m args below meth c H locs cells slots Q (F0 m pc ls (.int v :: .ref (a i) :: rest)) := mw_put (k := 4) X hG tyX1_ok nmX1 hT.1 rfl rfl inlX1 (by decide) wd_fk_X1_24 rfl (by decide +kernel) hdg kk
theorem pf_X2_21 {p : Program} {l : Launch} {e : Env} {R : Room} {s : State} {m : MethodId} {args : Array Value} {below : List Frame} {meth : Method} {c : Code} {H : Heap} {locs : List Loc} {cells slots : Nat} {Q : State → Prop} {dC : Nat → ClassId} {dI : Nat → Nat → Nat} {cy : Nat → ClassId} {a : Nat → Nat} {cc : ByteArray} {nL : Nat} {ret : Option FieldType} {H0 : Heap} {M : Mem} {pc : Nat} {ls : Array Slot} {rest : List Value} {i : Nat} {v : Int32} (X : XU dC dI cy a p s m c args meth cc nL RX2 ret) (hG : GU dC dI cy a H0 M H locs) (hT : K2 i) (hdg : decode cc pc = .ok (.putfield 21, 3)) (kk : ∀ (M1 : Mem) (H1 : Heap) (locs1 : List Loc), M1 = wr M i 3 v → GU dC dI cy a H0 M1 H1 locs1 → W p l e R s m args below meth c H1 locs1 cells slots Q (F0 m (pc + 3) ls rest)) : W p l e R s m args below meth c H locs cells slots Q (F0 m pc ls (.int v :: .ref (a i) :: rest)) := mw_put (k := 3) X hG tyX2_ok nmX2 hT.1 rfl rfl inlX2 (by decide) wd_fk_X2_21 rfl (by decide +kernel) hdg kk
theorem pf_X3_34 {p : Program} {l : Launch} {e : Env} {R : Room} {s : State} {m : MethodId} {args : Array Value} {below : List Frame} {meth : Method} {c : Code} {H : Heap} {locs : List Loc} {cells slots : Nat} {Q : State → Prop} {dC : Nat → ClassId} {dI : Nat → Nat → Nat} {cy : Nat → ClassId} {a : Nat → Nat} {cc : ByteArray} {nL : Nat} {ret : Option FieldType} {H0 : Heap} {M : Mem} {pc : Nat} {ls : Array Slot} {rest : List Value} {i : Nat} {v : Int32} (X : XU dC dI cy a p s m c args meth cc nL RX3 ret) (hG : GU dC dI cy a H0 M H locs) (hT : K3 i) (hdg : decode cc pc = .ok (.putfield 34, 3)) (kk : ∀ (M1 : Mem) (H1 : Heap) (locs1 : List Loc), M1 = wr M i 6 v → GU dC dI cy a H0 M1 H1 locs1 → W p l e R s m args below meth c H1 locs1 cells slots Q (F0 m (pc + 3) ls rest)) : W p l e R s m args below meth c H locs cells slots Q (F0 m pc ls (.int v :: .ref (a i) :: rest)) := mw_put (k := 6) X hG tyX3_ok nmX3 hT.1 rfl rfl inlX3 (by decide) wd_fk_X3_34 rfl (by decide +kernel) hdg kk
theorem pf_X3_39 {p : Program} {l : Launch} {e : Env} {R : Room} {s : State} {m : MethodId} {args : Array Value} {below : List Frame} {meth : Method} {c : Code} {H : Heap} {locs : List Loc} {cells slots : Nat} {Q : State → Prop} {dC : Nat → ClassId} {dI : Nat → Nat → Nat} {cy : Nat → ClassId} {a : Nat → Nat} {cc : ByteArray} {nL : Nat} {ret : Option FieldType} {H0 : Heap} {M : Mem} {pc : Nat} {ls : Array Slot} {rest : List Value} {i : Nat} {v : Int32} (X : XU dC dI cy a p s m c args meth cc nL RX3 ret) (hG : GU dC dI cy a H0 M H locs) (hT : K0 i) (hdg : decode cc pc = .ok (.putfield 39, 3)) (kk : ∀ (M1 : Mem) (H1 : Heap) (locs1 : List Loc), M1 = wr M i 7 v → GU dC dI cy a H0 M1 H1 locs1 → W p l e R s m args below meth c H1 locs1 cells slots Q (F0 m (pc + 3) ls rest)) : W p l e R s m args below meth c H locs cells slots Q (F0 m pc ls (.int v :: .ref (a i) :: rest)) := mw_put (k := 7) X hG tyX0_ok nmX0 hT.1 rfl rfl inlX0 (by decide) wd_fk_X3_39 rfl (by decide +kernel) hdg kk
theorem pf_X3_42 {p : Program} {l : Launch} {e : Env} {R : Room} {s : State} {m : MethodId} {args : Array Value} {below : List Frame} {meth : Method} {c : Code} {H : Heap} {locs : List Loc} {cells slots : Nat} {Q : State → Prop} {dC : Nat → ClassId} {dI : Nat → Nat → Nat} {cy : Nat → ClassId} {a : Nat → Nat} {cc : ByteArray} {nL : Nat} {ret : Option FieldType} {H0 : Heap} {M : Mem} {pc : Nat} {ls : Array Slot} {rest : List Value} {i : Nat} {v : Int32} (X : XU dC dI cy a p s m c args meth cc nL RX3 ret) (hG : GU dC dI cy a H0 M H locs) (hT : K2 i) (hdg : decode cc pc = .ok (.putfield 42, 3)) (kk : ∀ (M1 : Mem) (H1 : Heap) (locs1 : List Loc), M1 = wr M i 3 v → GU dC dI cy a H0 M1 H1 locs1 → W p l e R s m args below meth c H1 locs1 cells slots Q (F0 m (pc + 3) ls rest)) : W p l e R s m args below meth c H locs cells slots Q (F0 m pc ls (.int v :: .ref (a i) :: rest)) := mw_put (k := 3) X hG tyX2_ok nmX2 hT.1 rfl rfl inlX2 (by decide) wd_fk_X3_42 rfl (by decide +kernel) hdg kk
theorem pf_X3_43 {p : Program} {l : Launch} {e : Env} {R : Room} {s : State} {m : MethodId} {args : Array Value} {below : List Frame} {meth : Method} {c : Code} {H : Heap} {locs : List Loc} {cells slots : Nat} {Q : State → Prop} {dC : Nat → ClassId} {dI : Nat → Nat → Nat} {cy : Nat → ClassId} {a : Nat → Nat} {cc : ByteArray} {nL : Nat} {ret : Option FieldType} {H0 : Heap} {M : Mem} {pc : Nat} {ls : Array Slot} {rest : List Value} {i : Nat} {v : Int32} (X : XU dC dI cy a p s m c args meth cc nL RX3 ret) (hG : GU dC dI cy a H0 M H locs) (hT : K3 i) (hdg : decode cc pc = .ok (.putfield 43, 3)) (kk : ∀ (M1 : Mem) (H1 : Heap) (locs1 : List Loc), M1 = wr M i 5 v → GU dC dI cy a H0 M1 H1 locs1 → W p l e R s m args below meth c H1 locs1 cells slots Q (F0 m (pc + 3) ls rest)) : W p l e R s m args below meth c H locs cells slots Q (F0 m pc ls (.int v :: .ref (a i) :: rest)) := mw_put (k := 5) X hG tyX3_ok nmX3 hT.1 rfl rfl inlX3 (by decide) wd_fk_X3_43 rfl (by decide +kernel) hdg kk
theorem pf_X3_46 {p : Program} {l : Launch} {e : Env} {R : Room} {s : State} {m : MethodId} {args : Array Value} {below : List Frame} {meth : Method} {c : Code} {H : Heap} {locs : List Loc} {cells slots : Nat} {Q : State → Prop} {dC : Nat → ClassId} {dI : Nat → Nat → Nat} {cy : Nat → ClassId} {a : Nat → Nat} {cc : ByteArray} {nL : Nat} {ret : Option FieldType} {H0 : Heap} {M : Mem} {pc : Nat} {ls : Array Slot} {rest : List Value} {i : Nat} {v : Int32} (X : XU dC dI cy a p s m c args meth cc nL RX3 ret) (hG : GU dC dI cy a H0 M H locs) (hT : K3 i) (hdg : decode cc pc = .ok (.putfield 46, 3)) (kk : ∀ (M1 : Mem) (H1 : Heap) (locs1 : List Loc), M1 = wr M i 7 v → GU dC dI cy a H0 M1 H1 locs1 → W p l e R s m args below meth c H1 locs1 cells slots Q (F0 m (pc + 3) ls rest)) : W p l e R s m args below meth c H locs cells slots Q (F0 m pc ls (.int v :: .ref (a i) :: rest)) := mw_put (k := 7) X hG tyX3_ok nmX3 hT.1 rfl rfl inlX3 (by decide) wd_fk_X3_46 rfl (by decide +kernel) hdg kk
theorem pf_X3_49 {p : Program} {l : Launch} {e : Env} {R : Room} {s : State} {m : MethodId} {args : Array Value} {below : List Frame} {meth : Method} {c : Code} {H : Heap} {locs : List Loc} {cells slots : Nat} {Q : State → Prop} {dC : Nat → ClassId} {dI : Nat → Nat → Nat} {cy : Nat → ClassId} {a : Nat → Nat} {cc : ByteArray} {nL : Nat} {ret : Option FieldType} {H0 : Heap} {M : Mem} {pc : Nat} {ls : Array Slot} {rest : List Value} {i : Nat} {v : Int32} (X : XU dC dI cy a p s m c args meth cc nL RX3 ret) (hG : GU dC dI cy a H0 M H locs) (hT : K3 i) (hdg : decode cc pc = .ok (.putfield 49, 3)) (kk : ∀ (M1 : Mem) (H1 : Heap) (locs1 : List Loc), M1 = wr M i 8 v → GU dC dI cy a H0 M1 H1 locs1 → W p l e R s m args below meth c H1 locs1 cells slots Q (F0 m (pc + 3) ls rest)) : W p l e R s m args below meth c H locs cells slots Q (F0 m pc ls (.int v :: .ref (a i) :: rest)) := mw_put (k := 8) X hG tyX3_ok nmX3 hT.1 rfl rfl inlX3 (by decide) wd_fk_X3_49 rfl (by decide +kernel) hdg kk
theorem pf_X3_52 {p : Program} {l : Launch} {e : Env} {R : Room} {s : State} {m : MethodId} {args : Array Value} {below : List Frame} {meth : Method} {c : Code} {H : Heap} {locs : List Loc} {cells slots : Nat} {Q : State → Prop} {dC : Nat → ClassId} {dI : Nat → Nat → Nat} {cy : Nat → ClassId} {a : Nat → Nat} {cc : ByteArray} {nL : Nat} {ret : Option FieldType} {H0 : Heap} {M : Mem} {pc : Nat} {ls : Array Slot} {rest : List Value} {i : Nat} {v : Int32} (X : XU dC dI cy a p s m c args meth cc nL RX3 ret) (hG : GU dC dI cy a H0 M H locs) (hT : K3 i) (hdg : decode cc pc = .ok (.putfield 52, 3)) (kk : ∀ (M1 : Mem) (H1 : Heap) (locs1 : List Loc), M1 = wr M i 9 v → GU dC dI cy a H0 M1 H1 locs1 → W p l e R s m args below meth c H1 locs1 cells slots Q (F0 m (pc + 3) ls rest)) : W p l e R s m args below meth c H locs cells slots Q (F0 m pc ls (.int v :: .ref (a i) :: rest)) := mw_put (k := 9) X hG tyX3_ok nmX3 hT.1 rfl rfl inlX3 (by decide) wd_fk_X3_52 rfl (by decide +kernel) hdg kk
theorem pf_X3_55 {p : Program} {l : Launch} {e : Env} {R : Room} {s : State} {m : MethodId} {args : Array Value} {below : List Frame} {meth : Method} {c : Code} {H : Heap} {locs : List Loc} {cells slots : Nat} {Q : State → Prop} {dC : Nat → ClassId} {dI : Nat → Nat → Nat} {cy : Nat → ClassId} {a : Nat → Nat} {cc : ByteArray} {nL : Nat} {ret : Option FieldType} {H0 : Heap} {M : Mem} {pc : Nat} {ls : Array Slot} {rest : List Value} {i : Nat} {v : Int32} (X : XU dC dI cy a p s m c args meth cc nL RX3 ret) (hG : GU dC dI cy a H0 M H locs) (hT : K3 i) (hdg : decode cc pc = .ok (.putfield 55, 3)) (kk : ∀ (M1 : Mem) (H1 : Heap) (locs1 : List Loc), M1 = wr M i 10 v → GU dC dI cy a H0 M1 H1 locs1 → W p l e R s m args below meth c H1 locs1 cells slots Q (F0 m (pc + 3) ls rest)) : W p l e R s m args below meth c H locs cells slots Q (F0 m pc ls (.int v :: .ref (a i) :: rest)) := mw_put (k := 10) X hG tyX3_ok nmX3 hT.1 rfl rfl inlX3 (by decide) wd_fk_X3_55 rfl (by decide +kernel) hdg kk
theorem pf_X3_58 {p : Program} {l : Launch} {e : Env} {R : Room} {s : State} {m : MethodId} {args : Array Value} {below : List Frame} {meth : Method} {c : Code} {H : Heap} {locs : List Loc} {cells slots : Nat} {Q : State → Prop} {dC : Nat → ClassId} {dI : Nat → Nat → Nat} {cy : Nat → ClassId} {a : Nat → Nat} {cc : ByteArray} {nL : Nat} {ret : Option FieldType} {H0 : Heap} {M : Mem} {pc : Nat} {ls : Array Slot} {rest : List Value} {i : Nat} {v : Int32} (X : XU dC dI cy a p s m c args meth cc nL RX3 ret) (hG : GU dC dI cy a H0 M H locs) (hT : K3 i) (hdg : decode cc pc = .ok (.putfield 58, 3)) (kk : ∀ (M1 : Mem) (H1 : Heap) (locs1 : List Loc), M1 = wr M i 11 v → GU dC dI cy a H0 M1 H1 locs1 → W p l e R s m args below meth c H1 locs1 cells slots Q (F0 m (pc + 3) ls rest)) : W p l e R s m args below meth c H locs cells slots Q (F0 m pc ls (.int v :: .ref (a i) :: rest)) := mw_put (k := 11) X hG tyX3_ok nmX3 hT.1 rfl rfl inlX3 (by decide) wd_fk_X3_58 rfl (by decide +kernel) hdg kk
theorem pf_X4_89 {p : Program} {l : Launch} {e : Env} {R : Room} {s : State} {m : MethodId} {args : Array Value} {below : List Frame} {meth : Method} {c : Code} {H : Heap} {locs : List Loc} {cells slots : Nat} {Q : State → Prop} {dC : Nat → ClassId} {dI : Nat → Nat → Nat} {cy : Nat → ClassId} {a : Nat → Nat} {cc : ByteArray} {nL : Nat} {ret : Option FieldType} {H0 : Heap} {M : Mem} {pc : Nat} {ls : Array Slot} {rest : List Value} {i : Nat} {v : Int32} (X : XU dC dI cy a p s m c args meth cc nL RX4 ret) (hG : GU dC dI cy a H0 M H locs) (hT : K3 i) (hdg : decode cc pc = .ok (.putfield 89, 3)) (kk : ∀ (M1 : Mem) (H1 : Heap) (locs1 : List Loc), M1 = wr M i 6 v → GU dC dI cy a H0 M1 H1 locs1 → W p l e R s m args below meth c H1 locs1 cells slots Q (F0 m (pc + 3) ls rest)) : W p l e R s m args below meth c H locs cells slots Q (F0 m pc ls (.int v :: .ref (a i) :: rest)) := mw_put (k := 6) X hG tyX3_ok nmX3 hT.1 rfl rfl inlX3 (by decide) wd_fk_X4_89 rfl (by decide +kernel) hdg kk
theorem pf_X4_126 {p : Program} {l : Launch} {e : Env} {R : Room} {s : State} {m : MethodId} {args : Array Value} {below : List Frame} {meth : Method} {c : Code} {H : Heap} {locs : List Loc} {cells slots : Nat} {Q : State → Prop} {dC : Nat → ClassId} {dI : Nat → Nat → Nat} {cy : Nat → ClassId} {a : Nat → Nat} {cc : ByteArray} {nL : Nat} {ret : Option FieldType} {H0 : Heap} {M : Mem} {pc : Nat} {ls : Array Slot} {rest : List Value} {i : Nat} {v : Int32} (X : XU dC dI cy a p s m c args meth cc nL RX4 ret) (hG : GU dC dI cy a H0 M H locs) (hT : K3 i) (hdg : decode cc pc = .ok (.putfield 126, 3)) (kk : ∀ (M1 : Mem) (H1 : Heap) (locs1 : List Loc), M1 = wr M i 9 v → GU dC dI cy a H0 M1 H1 locs1 → W p l e R s m args below meth c H1 locs1 cells slots Q (F0 m (pc + 3) ls rest)) : W p l e R s m args below meth c H locs cells slots Q (F0 m pc ls (.int v :: .ref (a i) :: rest)) := mw_put (k := 9) X hG tyX3_ok nmX3 hT.1 rfl rfl inlX3 (by decide) wd_fk_X4_126 rfl (by decide +kernel) hdg kk
theorem pf_X4_129 {p : Program} {l : Launch} {e : Env} {R : Room} {s : State} {m : MethodId} {args : Array Value} {below : List Frame} {meth : Method} {c : Code} {H : Heap} {locs : List Loc} {cells slots : Nat} {Q : State → Prop} {dC : Nat → ClassId} {dI : Nat → Nat → Nat} {cy : Nat → ClassId} {a : Nat → Nat} {cc : ByteArray} {nL : Nat} {ret : Option FieldType} {H0 : Heap} {M : Mem} {pc : Nat} {ls : Array Slot} {rest : List Value} {i : Nat} {v : Int32} (X : XU dC dI cy a p s m c args meth cc nL RX4 ret) (hG : GU dC dI cy a H0 M H locs) (hT : K3 i) (hdg : decode cc pc = .ok (.putfield 129, 3)) (kk : ∀ (M1 : Mem) (H1 : Heap) (locs1 : List Loc), M1 = wr M i 10 v → GU dC dI cy a H0 M1 H1 locs1 → W p l e R s m args below meth c H1 locs1 cells slots Q (F0 m (pc + 3) ls rest)) : W p l e R s m args below meth c H locs cells slots Q (F0 m pc ls (.int v :: .ref (a i) :: rest)) := mw_put (k := 10) X hG tyX3_ok nmX3 hT.1 rfl rfl inlX3 (by decide) wd_fk_X4_129 rfl (by decide +kernel) hdg kk
theorem pf_X5_30 {p : Program} {l : Launch} {e : Env} {R : Room} {s : State} {m : MethodId} {args : Array Value} {below : List Frame} {meth : Method} {c : Code} {H : Heap} {locs : List Loc} {cells slots : Nat} {Q : State → Prop} {dC : Nat → ClassId} {dI : Nat → Nat → Nat} {cy : Nat → ClassId} {a : Nat → Nat} {cc : ByteArray} {nL : Nat} {ret : Option FieldType} {H0 : Heap} {M : Mem} {pc : Nat} {ls : Array Slot} {rest : List Value} {i : Nat} {v : Int32} (X : XU dC dI cy a p s m c args meth cc nL RX5 ret) (hG : GU dC dI cy a H0 M H locs) (hT : K5 i) (hdg : decode cc pc = .ok (.putfield 30, 3)) (kk : ∀ (M1 : Mem) (H1 : Heap) (locs1 : List Loc), M1 = wr M i 2 v → GU dC dI cy a H0 M1 H1 locs1 → W p l e R s m args below meth c H1 locs1 cells slots Q (F0 m (pc + 3) ls rest)) : W p l e R s m args below meth c H locs cells slots Q (F0 m pc ls (.int v :: .ref (a i) :: rest)) := mw_put (k := 2) X hG tyX5_ok nmX5 hT.1 rfl rfl inlX5 (by decide) wd_fk_X5_30 rfl (by decide +kernel) hdg kk
theorem pf_X5_65 {p : Program} {l : Launch} {e : Env} {R : Room} {s : State} {m : MethodId} {args : Array Value} {below : List Frame} {meth : Method} {c : Code} {H : Heap} {locs : List Loc} {cells slots : Nat} {Q : State → Prop} {dC : Nat → ClassId} {dI : Nat → Nat → Nat} {cy : Nat → ClassId} {a : Nat → Nat} {cc : ByteArray} {nL : Nat} {ret : Option FieldType} {H0 : Heap} {M : Mem} {pc : Nat} {ls : Array Slot} {rest : List Value} {i : Nat} {v : Int64} (X : XU dC dI cy a p s m c args meth cc nL RX5 ret) (hG : GU dC dI cy a H0 M H locs) (hT : K5 i) (hdg : decode cc pc = .ok (.putfield 65, 3)) (kk : ∀ (M1 : Mem) (H1 : Heap) (locs1 : List Loc), M1 = wrJ M v → GU dC dI cy a H0 M1 H1 locs1 → W p l e R s m args below meth c H1 locs1 cells slots Q (F0 m (pc + 3) ls rest)) : W p l e R s m args below meth c H locs cells slots Q (F0 m pc ls (.long v :: .ref (a i) :: rest)) := mw_putJ (k := 4) X hG tyX5_ok nmX5 hT.2.2.2.2.2 hT.1 rfl (fun q h => by match q, h with | 0, h => cases h | 1, h => cases h | 2, h => cases h | 3, h => cases h | 4, _ => rfl | 5, h => cases h | q + 6, h => cases h) rfl inlX5 (by decide) wd_fk_X5_65 rfl (by decide +kernel) hdg kk
theorem g_X0_49 : GoodIn wsL_law (wsV RX0 49 RX0 yX0_reachedWithoutPromise (wsU yX0_reachedWithoutPromise cX0_reachedWithoutPromise 7 (some .int))) := gV wd_ml_X0_49 wd_im_X0_reachedWithoutPromise wd_se_X0_X0_reachedWithoutPromise wd_ini_X0 wd_co_X0_reachedWithoutPromise
theorem g_X2_26 : GoodIn wsL_law (wsV RX2 26 RX2 yX2_isBehind (wsU yX2_isBehind cX2_isBehind 4 (some .boolean))) := gV wd_ml_X2_26 wd_im_X2_isBehind wd_se_X2_X2_isBehind wd_ini_X2 wd_co_X2_isBehind
theorem g_X3_61 : GoodIn wsL_law (wsV RX3 61 RX0 yX0_copyFrom (wsU yX0_copyFrom cX0_copyFrom 2 none)) := gV wd_ml_X3_61 wd_im_X0_copyFrom wd_se_X0_X0_copyFrom wd_ini_X0 wd_co_X0_copyFrom
theorem g_X3_65 : GoodIn wsL_law (wsV RX3 65 RX2 yX2_copyFrom (wsU yX2_copyFrom cX2_copyFrom 2 none)) := gV wd_ml_X3_65 wd_im_X2_copyFrom wd_se_X2_X2_copyFrom wd_ini_X2 wd_co_X2_copyFrom
theorem g_X3_68 : GoodIn wsL_law (wsV RX3 68 RX2 yX2_firstTime (wsU yX2_firstTime cX2_firstTime 1 (some .int))) := gV wd_ml_X3_68 wd_im_X2_firstTime wd_se_X2_X2_firstTime wd_ini_X2 wd_co_X2_firstTime
theorem g_X3_72 : GoodIn wsL_law (wsV RX3 72 RX3 yX3_partOfLeastTime (wsU yX3_partOfLeastTime cX3_partOfLeastTime 3 (some .int))) := gV wd_ml_X3_72 wd_im_X3_partOfLeastTime wd_se_X3_X3_partOfLeastTime wd_ini_X3 wd_co_X3_partOfLeastTime
theorem g_X3_75 : GoodIn wsL_law (wsV RX3 75 RX0 yX0_ofLeastClockTo (wsU yX0_ofLeastClockTo cX0_ofLeastClockTo 4 (some .int))) := gV wd_ml_X3_75 wd_im_X0_ofLeastClockTo wd_se_X0_X0_ofLeastClockTo wd_ini_X0 wd_co_X0_ofLeastClockTo
theorem g_X3_83 : GoodIn wsL_law (wsV RX3 83 RX3 yX3_safeOf (wsU yX3_safeOf cX3_safeOf 3 (some .int))) := gV wd_ml_X3_83 wd_im_X3_safeOf wd_se_X3_X3_safeOf wd_ini_X3 wd_co_X3_safeOf
theorem g_X3_86 : GoodIn wsL_law (wsV RX3 86 RX3 yX3_mayWork (wsU yX3_mayWork cX3_mayWork 2 (some .boolean))) := gV wd_ml_X3_86 wd_im_X3_mayWork wd_se_X3_X3_mayWork wd_ini_X3 wd_co_X3_mayWork
theorem g_X3_90 : GoodIn wsL_law (wsV RX3 90 RX2 yX2_add (wsU yX2_add cX2_add 5 none)) := gV wd_ml_X3_90 wd_im_X2_add wd_se_X2_X2_add wd_ini_X2 wd_co_X2_add
theorem g_X3_94 : GoodIn wsL_law (wsV RX3 94 RX2 yX2_firstValue (wsU yX2_firstValue cX2_firstValue 1 (some .int))) := gV wd_ml_X3_94 wd_im_X2_firstValue wd_se_X2_X2_firstValue wd_ini_X2 wd_co_X2_firstValue
theorem g_X3_97 : GoodIn wsL_law (wsV RX3 97 RX2 yX2_removeFirst (wsU yX2_removeFirst cX2_removeFirst 1 none)) := gV wd_ml_X3_97 wd_im_X2_removeFirst wd_se_X2_X2_removeFirst wd_ini_X2 wd_co_X2_removeFirst
theorem g_X3_101 : GoodIn wsL_law (wsV RX3 101 RX3 yX3_sendLetter (wsU yX3_sendLetter cX3_sendLetter 7 none)) := gV wd_ml_X3_101 wd_im_X3_sendLetter wd_se_X3_X3_sendLetter wd_ini_X3 wd_co_X3_sendLetter
theorem g_X3_104 : GoodIn wsL_law (wsV RX3 104 RX0 yX0_countFrom (wsU yX0_countFrom cX0_countFrom 4 (some .int))) := gV wd_ml_X3_104 wd_im_X0_countFrom wd_se_X0_X0_countFrom wd_ini_X0 wd_co_X0_countFrom
theorem g_X3_107 : GoodIn wsL_law (wsV RX3 107 RX0 yX0_atPlaceFrom (wsU yX0_atPlaceFrom cX0_atPlaceFrom 5 (some .int))) := gV wd_ml_X3_107 wd_im_X0_atPlaceFrom wd_se_X0_X0_atPlaceFrom wd_ini_X0 wd_co_X0_atPlaceFrom
theorem g_X3_134 : GoodIn wsL_law (wsV RX3 134 RX3 yX3_emptyMayGo (wsU yX3_emptyMayGo cX3_emptyMayGo 2 (some .boolean))) := gV wd_ml_X3_134 wd_im_X3_emptyMayGo wd_se_X3_X3_emptyMayGo wd_ini_X3 wd_co_X3_emptyMayGo
theorem g_X3_140 : GoodIn wsL_law (wsV RX3 140 RX3 yX3_channelWaitedFor (wsU yX3_channelWaitedFor cX3_channelWaitedFor 3 (some .int))) := gV wd_ml_X3_140 wd_im_X3_channelWaitedFor wd_se_X3_X3_channelWaitedFor wd_ini_X3 wd_co_X3_channelWaitedFor
theorem g_X4_38 : GoodIn wsL_law (wsS RX4 38 yX4_isOutside (wsU yX4_isOutside cX4_isOutside 3 (some .boolean))) := gS wd_ml_X4_38 wd_st_X4_isOutside wd_ini_X4 wd_co_X4_isOutside
theorem g_X4_47 : GoodIn wsL_law (wsV RX4 47 RX3 yX3_beginAnew (wsU yX3_beginAnew cX3_beginAnew 3 none)) := gV wd_ml_X4_47 wd_im_X3_beginAnew wd_se_X3_X3_beginAnew wd_ini_X3 wd_co_X3_beginAnew
theorem g_X4_51 : GoodIn wsL_law (wsV RX4 51 RX1 yX1_clear (wsU yX1_clear cX1_clear 1 none)) := gV wd_ml_X4_51 wd_im_X1_clear wd_se_X1_X1_clear wd_ini_X1 wd_co_X1_clear
theorem g_X4_54 : GoodIn wsL_law (wsV RX4 54 RX4 yX4_areNotTwoParts (wsU yX4_areNotTwoParts cX4_areNotTwoParts 3 (some .boolean))) := gV wd_ml_X4_54 wd_im_X4_areNotTwoParts wd_se_X4_X4_areNotTwoParts wd_ini_X4 wd_co_X4_areNotTwoParts
theorem g_X4_63 : GoodIn wsL_law (wsV RX4 63 RX0 yX0_find (wsU yX0_find cX0_find 4 (some .int))) := gV wd_ml_X4_63 wd_im_X0_find wd_se_X0_X0_find wd_ini_X0 wd_co_X0_find
theorem g_X4_69 : GoodIn wsL_law (wsV RX4 69 RX3 yX3_roundsAndLetGo (wsU yX3_roundsAndLetGo cX3_roundsAndLetGo 1 (some .int))) := gV wd_ml_X4_69 wd_im_X3_roundsAndLetGo wd_se_X3_X3_roundsAndLetGo wd_ini_X3 wd_co_X3_roundsAndLetGo
theorem g_X4_78 : GoodIn wsL_law (wsV RX4 78 RX0 yX0_add (wsU yX0_add cX0_add 6 (some .int))) := gV wd_ml_X4_78 wd_im_X0_add wd_se_X0_X0_add wd_ini_X0 wd_co_X0_add
theorem g_X4_82 : GoodIn wsL_law (wsV RX4 82 RX4 yX4_refusalOfEvent (wsU yX4_refusalOfEvent cX4_refusalOfEvent 4 (some .int))) := gV wd_ml_X4_82 wd_im_X4_refusalOfEvent wd_se_X4_X4_refusalOfEvent wd_ini_X4 wd_co_X4_refusalOfEvent
theorem g_X4_86 : GoodIn wsL_law (wsV RX4 86 RX3 yX3_tellByHand (wsU yX3_tellByHand cX3_tellByHand 4 (some .int))) := gV wd_ml_X4_86 wd_im_X3_tellByHand wd_se_X3_X3_tellByHand wd_ini_X3 wd_co_X3_tellByHand
theorem g_X4_96 : GoodIn wsL_law (wsS RX4 96 yX4_nextLot (wsU yX4_nextLot cX4_nextLot 2 (some .long))) := gS wd_ml_X4_96 wd_st_X4_nextLot wd_ini_X4 wd_co_X4_nextLot
theorem g_X4_107 : GoodIn wsL_law (wsV RX4 107 RX4 yX4_nothingIsRun (wsU yX4_nothingIsRun cX4_nothingIsRun 1 (some .boolean))) := gV wd_ml_X4_107 wd_im_X4_nothingIsRun wd_se_X4_X4_nothingIsRun wd_ini_X4 wd_co_X4_nothingIsRun
theorem g_X4_111 : GoodIn wsL_law (wsV RX4 111 RX3 yX3_eventsThatWait (wsU yX3_eventsThatWait cX3_eventsThatWait 3 (some .int))) := gV wd_ml_X4_111 wd_im_X3_eventsThatWait wd_se_X3_X3_eventsThatWait wd_ini_X3 wd_co_X3_eventsThatWait
theorem g_X4_114 : GoodIn wsL_law (wsV RX4 114 RX4 yX4_isStillAfterRound (wsU yX4_isStillAfterRound cX4_isStillAfterRound 4 (some .boolean))) := gV wd_ml_X4_114 wd_im_X4_isStillAfterRound wd_se_X4_X4_isStillAfterRound wd_ini_X4 wd_co_X4_isStillAfterRound
theorem g_X4_117 : GoodIn wsL_law (wsV RX4 117 RX3 yX3_partsThatMay (wsU yX3_partsThatMay cX3_partsThatMay 3 (some .int))) := gV wd_ml_X4_117 wd_im_X3_partsThatMay wd_se_X3_X3_partsThatMay wd_ini_X3 wd_co_X3_partsThatMay
theorem g_X4_120 : GoodIn wsL_law (wsV RX4 120 RX4 yX4_letEarliestGo (wsU yX4_letEarliestGo cX4_letEarliestGo 4 (some .int))) := gV wd_ml_X4_120 wd_im_X4_letEarliestGo wd_se_X4_X4_letEarliestGo wd_ini_X4 wd_co_X4_letEarliestGo
theorem g_X4_132 : GoodIn wsL_law (wsV RX4 132 RX3 yX3_leastTime (wsU yX3_leastTime cX3_leastTime 1 (some .int))) := gV wd_ml_X4_132 wd_im_X3_leastTime wd_se_X3_X3_leastTime wd_ini_X3 wd_co_X3_leastTime
theorem g_X4_136 : GoodIn wsL_law (wsV RX4 136 RX0 yX0_hasRingWithoutPromise (wsU yX0_hasRingWithoutPromise cX0_hasRingWithoutPromise 3 (some .boolean))) := gV wd_ml_X4_136 wd_im_X0_hasRingWithoutPromise wd_se_X0_X0_hasRingWithoutPromise wd_ini_X0 wd_co_X0_hasRingWithoutPromise
theorem g_X4_143 : GoodIn wsL_law (wsV RX4 143 RX4 yX4_isNoPart (wsU yX4_isNoPart cX4_isNoPart 2 (some .boolean))) := gV wd_ml_X4_143 wd_im_X4_isNoPart wd_se_X4_X4_isNoPart wd_ini_X4 wd_co_X4_isNoPart
theorem g_X4_152 : GoodIn wsL_law (wsV RX4 152 RX3 yX3_safeOf (wsU yX3_safeOf cX3_safeOf 3 (some .int))) := gV wd_ml_X4_152 wd_im_X3_safeOf wd_se_X3_X3_safeOf wd_ini_X3 wd_co_X3_safeOf
theorem g_X4_163 : GoodIn wsL_law (wsV RX4 163 RX2 yX2_firstTime (wsU yX2_firstTime cX2_firstTime 1 (some .int))) := gV wd_ml_X4_163 wd_im_X2_firstTime wd_se_X2_X2_firstTime wd_ini_X2 wd_co_X2_firstTime
theorem g_X4_166 : GoodIn wsL_law (wsV RX4 166 RX2 yX2_firstValue (wsU yX2_firstValue cX2_firstValue 1 (some .int))) := gV wd_ml_X4_166 wd_im_X2_firstValue wd_se_X2_X2_firstValue wd_ini_X2 wd_co_X2_firstValue
theorem g_X4_169 : GoodIn wsL_law (wsV RX4 169 RX3 yX3_mayWork (wsU yX3_mayWork cX3_mayWork 2 (some .boolean))) := gV wd_ml_X4_169 wd_im_X3_mayWork wd_se_X3_X3_mayWork wd_ini_X3 wd_co_X3_mayWork
theorem g_X4_172 : GoodIn wsL_law (wsV RX4 172 RX3 yX3_channelWaitedFor (wsU yX3_channelWaitedFor cX3_channelWaitedFor 3 (some .int))) := gV wd_ml_X4_172 wd_im_X3_channelWaitedFor wd_se_X3_X3_channelWaitedFor wd_ini_X3 wd_co_X3_channelWaitedFor
theorem g_X4_175 : GoodIn wsL_law (wsV RX4 175 RX0 yX0_countFrom (wsU yX0_countFrom cX0_countFrom 4 (some .int))) := gV wd_ml_X4_175 wd_im_X0_countFrom wd_se_X0_X0_countFrom wd_ini_X0 wd_co_X0_countFrom
theorem g_X4_178 : GoodIn wsL_law (wsV RX4 178 RX0 yX0_countTo (wsU yX0_countTo cX0_countTo 4 (some .int))) := gV wd_ml_X4_178 wd_im_X0_countTo wd_se_X0_X0_countTo wd_ini_X0 wd_co_X0_countTo
theorem g_X4_214 : GoodIn wsL_law (wsV RX4 214 RX4 yX4_leastPromisesRound (wsU yX4_leastPromisesRound cX4_leastPromisesRound 8 (some .int))) := gV wd_ml_X4_214 wd_im_X4_leastPromisesRound wd_se_X4_X4_leastPromisesRound wd_ini_X4 wd_co_X4_leastPromisesRound
theorem g_X4_218 : GoodIn wsL_law (wsV RX4 218 RX3 yX3_copyFrom (wsU yX3_copyFrom cX3_copyFrom 3 none)) := gV wd_ml_X4_218 wd_im_X3_copyFrom wd_se_X3_X3_copyFrom wd_ini_X3 wd_co_X3_copyFrom
theorem g_X4_222 : GoodIn wsL_law (wsV RX4 222 RX3 yX3_partOfLeastTime (wsU yX3_partOfLeastTime cX3_partOfLeastTime 3 (some .int))) := gV wd_ml_X4_222 wd_im_X3_partOfLeastTime wd_se_X3_X3_partOfLeastTime wd_ini_X3 wd_co_X3_partOfLeastTime
theorem g_X4_225 : GoodIn wsL_law (wsV RX4 225 RX3 yX3_workOnFirst (wsU yX3_workOnFirst cX3_workOnFirst 5 none)) := gV wd_ml_X4_225 wd_im_X3_workOnFirst wd_se_X3_X3_workOnFirst wd_ini_X3 wd_co_X3_workOnFirst
theorem g_X4_228 : GoodIn wsL_law (wsS RX4 228 yX4_isNoImage (wsU yX4_isNoImage cX4_isNoImage 1 (some .boolean))) := gS wd_ml_X4_228 wd_st_X4_isNoImage wd_ini_X4 wd_co_X4_isNoImage
theorem g_X4_231 : GoodIn wsL_law (wsV RX4 231 RX3 yX3_hasWorkedAtOrBehind (wsU yX3_hasWorkedAtOrBehind cX3_hasWorkedAtOrBehind 3 (some .boolean))) := gV wd_ml_X4_231 wd_im_X3_hasWorkedAtOrBehind wd_se_X3_X3_hasWorkedAtOrBehind wd_ini_X3 wd_co_X3_hasWorkedAtOrBehind
theorem g_X4_234 : GoodIn wsL_law (wsV RX4 234 RX0 yX0_promiseMoreThan (wsU yX0_promiseMoreThan cX0_promiseMoreThan 4 (some .boolean))) := gV wd_ml_X4_234 wd_im_X0_promiseMoreThan wd_se_X0_X0_promiseMoreThan wd_ini_X0 wd_co_X0_promiseMoreThan
theorem g_X4_241 : GoodIn wsL_law (wsV RX4 241 RX4 yX4_workAndWriteDown (wsU yX4_workAndWriteDown cX4_workAndWriteDown 3 none)) := gV wd_ml_X4_241 wd_im_X4_workAndWriteDown wd_se_X4_X4_workAndWriteDown wd_ini_X4 wd_co_X4_workAndWriteDown
theorem g_X4_244 : GoodIn wsL_law (wsV RX4 244 RX3 yX3_sendEmptyLetters (wsU yX3_sendEmptyLetters cX3_sendEmptyLetters 5 none)) := gV wd_ml_X4_244 wd_im_X3_sendEmptyLetters wd_se_X3_X3_sendEmptyLetters wd_ini_X3 wd_co_X3_sendEmptyLetters
theorem g_X4_247 : GoodIn wsL_law (wsV RX4 247 RX0 yX0_raiseClocks (wsU yX0_raiseClocks cX0_raiseClocks 3 none)) := gV wd_ml_X4_247 wd_im_X0_raiseClocks wd_se_X0_X0_raiseClocks wd_ini_X0 wd_co_X0_raiseClocks
theorem g_X4_250 : GoodIn wsL_law (wsV RX4 250 RX1 yX1_add (wsU yX1_add cX1_add 5 none)) := gV wd_ml_X4_250 wd_im_X1_add wd_se_X1_X1_add wd_ini_X1 wd_co_X1_add
theorem g_X5_23 : GoodIn wsL_law (wsS RX5 23 yX5_in (wsU yX5_in cX5_in 6 (some .boolean))) := gS wd_ml_X5_23 wd_st_X5_in wd_ini_X5 wd_co_X5_in
theorem g_X5_34 : GoodIn wsL_law (wsS RX5 34 yX5_at (wsU yX5_at cX5_at 2 (some .int))) := gS wd_ml_X5_34 wd_st_X5_at wd_ini_X5 wd_co_X5_at
theorem g_X5_38 : GoodIn wsL_law (wsV RX5 38 RX5 yX5_isPart (wsU yX5_isPart cX5_isPart 2 (some .boolean))) := gV wd_ml_X5_38 wd_im_X5_isPart wd_se_X5_X5_isPart wd_ini_X5 wd_co_X5_isPart
theorem g_X5_45 : GoodIn wsL_law (wsV RX5 45 RX5 yX5_wayOf (wsU yX5_wayOf cX5_wayOf 4 (some .int))) := gV wd_ml_X5_45 wd_im_X5_wayOf wd_se_X5_X5_wayOf wd_ini_X5 wd_co_X5_wayOf
theorem g_X5_52 : GoodIn wsL_law (wsV RX5 52 RX5 yX5_isPromised (wsU yX5_isPromised cX5_isPromised 5 (some .boolean))) := gV wd_ml_X5_52 wd_im_X5_isPromised wd_se_X5_X5_isPromised wd_ini_X5 wd_co_X5_isPromised
theorem g_X5_56 : GoodIn wsL_law (wsV RX5 56 RX5 yX5_comes (wsU yX5_comes cX5_comes 7 none)) := gV wd_ml_X5_56 wd_im_X5_comes wd_se_X5_X5_comes wd_ini_X5 wd_co_X5_comes
theorem g_X5_60 : GoodIn wsL_law (wsV RX5 60 RX5 yX5_waitFor (wsU yX5_waitFor cX5_waitFor 5 (some .int))) := gV wd_ml_X5_60 wd_im_X5_waitFor wd_se_X5_X5_waitFor wd_ini_X5 wd_co_X5_waitFor
theorem g_X5_77 : GoodIn wsL_law (wsV RX5 77 RX5 yX5_draw (wsU yX5_draw cX5_draw 2 (some .int))) := gV wd_ml_X5_77 wd_im_X5_draw wd_se_X5_X5_draw wd_ini_X5 wd_co_X5_draw
theorem g_X5_81 : GoodIn wsL_law (wsV RX5 81 RX5 yX5_event (wsU yX5_event cX5_event 4 (some .int))) := gV wd_ml_X5_81 wd_im_X5_event wd_se_X5_X5_event wd_ini_X5 wd_co_X5_event
theorem g_X5_85 : GoodIn wsL_law (wsV RX5 85 RX5 yX5_isAhead (wsU yX5_isAhead cX5_isAhead 3 (some .boolean))) := gV wd_ml_X5_85 wd_im_X5_isAhead wd_se_X5_X5_isAhead wd_ini_X5 wd_co_X5_isAhead
theorem g_X5_88 : GoodIn wsL_law (wsV RX5 88 RX5 yX5_firstOf (wsU yX5_firstOf cX5_firstOf 6 (some .int))) := gV wd_ml_X5_88 wd_im_X5_firstOf wd_se_X5_X5_firstOf wd_ini_X5 wd_co_X5_firstOf
theorem g_X5_92 : GoodIn wsL_law (wsV RX5 92 RX5 yX5_leastTo (wsU yX5_leastTo cX5_leastTo 4 (some .int))) := gV wd_ml_X5_92 wd_im_X5_leastTo wd_se_X5_X5_leastTo wd_ini_X5 wd_co_X5_leastTo
theorem g_X5_95 : GoodIn wsL_law (wsV RX5 95 RX5 yX5_firstTime (wsU yX5_firstTime cX5_firstTime 4 (some .int))) := gV wd_ml_X5_95 wd_im_X5_firstTime wd_se_X5_X5_firstTime wd_ini_X5 wd_co_X5_firstTime
theorem g_X5_98 : GoodIn wsL_law (wsV RX5 98 RX5 yX5_safe (wsU yX5_safe cX5_safe 3 (some .int))) := gV wd_ml_X5_98 wd_im_X5_safe wd_se_X5_X5_safe wd_ini_X5 wd_co_X5_safe
theorem g_X5_102 : GoodIn wsL_law (wsV RX5 102 RX5 yX5_outOf (wsU yX5_outOf cX5_outOf 5 (some .int))) := gV wd_ml_X5_102 wd_im_X5_outOf wd_se_X5_X5_outOf wd_ini_X5 wd_co_X5_outOf
theorem g_X5_105 : GoodIn wsL_law (wsV RX5 105 RX5 yX5_outAt (wsU yX5_outAt cX5_outAt 7 (some .int))) := gV wd_ml_X5_105 wd_im_X5_outAt wd_se_X5_X5_outAt wd_ini_X5 wd_co_X5_outAt
theorem g_X5_108 : GoodIn wsL_law (wsV RX5 108 RX5 yX5_may (wsU yX5_may cX5_may 2 (some .boolean))) := gV wd_ml_X5_108 wd_im_X5_may wd_se_X5_X5_may wd_ini_X5 wd_co_X5_may
theorem g_X5_111 : GoodIn wsL_law (wsV RX5 111 RX5 yX5_works (wsU yX5_works cX5_works 10 none)) := gV wd_ml_X5_111 wd_im_X5_works wd_se_X5_X5_works wd_ini_X5 wd_co_X5_works
theorem g_X5_115 : GoodIn wsL_law (wsV RX5 115 RX5 yX5_empties (wsU yX5_empties cX5_empties 11 (some .int))) := gV wd_ml_X5_115 wd_im_X5_empties wd_se_X5_X5_empties wd_ini_X5 wd_co_X5_empties
theorem g_X5_118 : GoodIn wsL_law (wsV RX5 118 RX5 yX5_leastTime (wsU yX5_leastTime cX5_leastTime 4 (some .int))) := gV wd_ml_X5_118 wd_im_X5_leastTime wd_se_X5_X5_leastTime wd_ini_X5 wd_co_X5_leastTime
theorem g_X5_122 : GoodIn wsL_law (wsV RX5 122 RX5 yX5_ringOf (wsU yX5_ringOf cX5_ringOf 6 (some .int))) := gV wd_ml_X5_122 wd_im_X5_ringOf wd_se_X5_X5_ringOf wd_ini_X5 wd_co_X5_ringOf
theorem g_X5_125 : GoodIn wsL_law (wsV RX5 125 RX5 yX5_isRing (wsU yX5_isRing cX5_isRing 3 (some .boolean))) := gV wd_ml_X5_125 wd_im_X5_isRing wd_se_X5_X5_isRing wd_ini_X5 wd_co_X5_isRing
theorem g_X5_131 : GoodIn wsL_law (wsV RX5 131 RX5 yX5_canRun (wsU yX5_canRun cX5_canRun 1 (some .boolean))) := gV wd_ml_X5_131 wd_im_X5_canRun wd_se_X5_X5_canRun wd_ini_X5 wd_co_X5_canRun
theorem g_X5_134 : GoodIn wsL_law (wsV RX5 134 RX5 yX5_rounds (wsU yX5_rounds cX5_rounds 3 (some .boolean))) := gV wd_ml_X5_134 wd_im_X5_rounds wd_se_X5_X5_rounds wd_ini_X5 wd_co_X5_rounds
theorem g_X5_137 : GoodIn wsL_law (wsV RX5 137 RX5 yX5_allMay (wsU yX5_allMay cX5_allMay 3 (some .int))) := gV wd_ml_X5_137 wd_im_X5_allMay wd_se_X5_X5_allMay wd_ini_X5 wd_co_X5_allMay
theorem g_X5_140 : GoodIn wsL_law (wsV RX5 140 RX5 yX5_lets (wsU yX5_lets cX5_lets 3 (some .int))) := gV wd_ml_X5_140 wd_im_X5_lets wd_se_X5_X5_lets wd_ini_X5 wd_co_X5_lets
theorem g_X5_143 : GoodIn wsL_law (wsV RX5 143 RX5 yX5_firstValue (wsU yX5_firstValue cX5_firstValue 3 (some .int))) := gV wd_ml_X5_143 wd_im_X5_firstValue wd_se_X5_X5_firstValue wd_ini_X5 wd_co_X5_firstValue
theorem g_X5_146 : GoodIn wsL_law (wsV RX5 146 RX5 yX5_waitsBy (wsU yX5_waitsBy cX5_waitsBy 2 (some .int))) := gV wd_ml_X5_146 wd_im_X5_waitsBy wd_se_X5_X5_waitsBy wd_ini_X5 wd_co_X5_waitsBy
theorem g_X5_149 : GoodIn wsL_law (wsV RX5 149 RX5 yX5_waysTo (wsU yX5_waysTo cX5_waysTo 4 (some .int))) := gV wd_ml_X5_149 wd_im_X5_waysTo wd_se_X5_X5_waysTo wd_ini_X5 wd_co_X5_waysTo
theorem g_X5_152 : GoodIn wsL_law (wsV RX5 152 RX5 yX5_isChannel (wsU yX5_isChannel cX5_isChannel 2 (some .boolean))) := gV wd_ml_X5_152 wd_im_X5_isChannel wd_se_X5_X5_isChannel wd_ini_X5 wd_co_X5_isChannel
theorem g_X5_157 : GoodIn wsL_law (wsS RX5 157 yX5_has (wsU yX5_has cX5_has 2 (some .boolean))) := gS wd_ml_X5_157 wd_st_X5_has wd_ini_X5 wd_co_X5_has
theorem g_X5_160 : GoodIn wsL_law (wsV RX5 160 RX5 yX5_copy (wsU yX5_copy cX5_copy 4 none)) := gV wd_ml_X5_160 wd_im_X5_copy wd_se_X5_X5_copy wd_ini_X5 wd_co_X5_copy
theorem hd_X0_add : yX0_add.cls = RX0 ∧ yX0_add.cls ≠ "java/lang/invoke/MethodHandle" ∧ yX0_add.cls ≠ "java/lang/invoke/VarHandle" ∧ (parseMethodDescriptor yX0_add.desc).map (fun d => d.parameters.length) = some 4 := by decide +kernel
theorem hd_X0_copyFrom : yX0_copyFrom.cls = RX0 ∧ yX0_copyFrom.cls ≠ "java/lang/invoke/MethodHandle" ∧ yX0_copyFrom.cls ≠ "java/lang/invoke/VarHandle" ∧ (parseMethodDescriptor yX0_copyFrom.desc).map (fun d => d.parameters.length) = some 1 := by decide +kernel
theorem hd_X0_find : yX0_find.cls = RX0 ∧ yX0_find.cls ≠ "java/lang/invoke/MethodHandle" ∧ yX0_find.cls ≠ "java/lang/invoke/VarHandle" ∧ (parseMethodDescriptor yX0_find.desc).map (fun d => d.parameters.length) = some 2 := by decide +kernel
theorem hd_X0_countFrom : yX0_countFrom.cls = RX0 ∧ yX0_countFrom.cls ≠ "java/lang/invoke/MethodHandle" ∧ yX0_countFrom.cls ≠ "java/lang/invoke/VarHandle" ∧ (parseMethodDescriptor yX0_countFrom.desc).map (fun d => d.parameters.length) = some 1 := by decide +kernel
theorem hd_X0_countTo : yX0_countTo.cls = RX0 ∧ yX0_countTo.cls ≠ "java/lang/invoke/MethodHandle" ∧ yX0_countTo.cls ≠ "java/lang/invoke/VarHandle" ∧ (parseMethodDescriptor yX0_countTo.desc).map (fun d => d.parameters.length) = some 1 := by decide +kernel
theorem hd_X0_atPlaceFrom : yX0_atPlaceFrom.cls = RX0 ∧ yX0_atPlaceFrom.cls ≠ "java/lang/invoke/MethodHandle" ∧ yX0_atPlaceFrom.cls ≠ "java/lang/invoke/VarHandle" ∧ (parseMethodDescriptor yX0_atPlaceFrom.desc).map (fun d => d.parameters.length) = some 2 := by decide +kernel
theorem hd_X0_ofLeastClockTo : yX0_ofLeastClockTo.cls = RX0 ∧ yX0_ofLeastClockTo.cls ≠ "java/lang/invoke/MethodHandle" ∧ yX0_ofLeastClockTo.cls ≠ "java/lang/invoke/VarHandle" ∧ (parseMethodDescriptor yX0_ofLeastClockTo.desc).map (fun d => d.parameters.length) = some 1 := by decide +kernel
theorem hd_X0_promiseMoreThan : yX0_promiseMoreThan.cls = RX0 ∧ yX0_promiseMoreThan.cls ≠ "java/lang/invoke/MethodHandle" ∧ yX0_promiseMoreThan.cls ≠ "java/lang/invoke/VarHandle" ∧ (parseMethodDescriptor yX0_promiseMoreThan.desc).map (fun d => d.parameters.length) = some 2 := by decide +kernel
theorem hd_X0_raiseClocks : yX0_raiseClocks.cls = RX0 ∧ yX0_raiseClocks.cls ≠ "java/lang/invoke/MethodHandle" ∧ yX0_raiseClocks.cls ≠ "java/lang/invoke/VarHandle" ∧ (parseMethodDescriptor yX0_raiseClocks.desc).map (fun d => d.parameters.length) = some 1 := by decide +kernel
theorem hd_X0_hasRingWithoutPromise : yX0_hasRingWithoutPromise.cls = RX0 ∧ yX0_hasRingWithoutPromise.cls ≠ "java/lang/invoke/MethodHandle" ∧ yX0_hasRingWithoutPromise.cls ≠ "java/lang/invoke/VarHandle" ∧ (parseMethodDescriptor yX0_hasRingWithoutPromise.desc).map (fun d => d.parameters.length) = some 1 := by decide +kernel
theorem hd_X0_reachedWithoutPromise : yX0_reachedWithoutPromise.cls = RX0 ∧ yX0_reachedWithoutPromise.cls ≠ "java/lang/invoke/MethodHandle" ∧ yX0_reachedWithoutPromise.cls ≠ "java/lang/invoke/VarHandle" ∧ (parseMethodDescriptor yX0_reachedWithoutPromise.desc).map (fun d => d.parameters.length) = some 2 := by decide +kernel
theorem hd_X1_clear : yX1_clear.cls = RX1 ∧ yX1_clear.cls ≠ "java/lang/invoke/MethodHandle" ∧ yX1_clear.cls ≠ "java/lang/invoke/VarHandle" ∧ (parseMethodDescriptor yX1_clear.desc).map (fun d => d.parameters.length) = some 0 := by decide +kernel
theorem hd_X1_add : yX1_add.cls = RX1 ∧ yX1_add.cls ≠ "java/lang/invoke/MethodHandle" ∧ yX1_add.cls ≠ "java/lang/invoke/VarHandle" ∧ (parseMethodDescriptor yX1_add.desc).map (fun d => d.parameters.length) = some 4 := by decide +kernel
theorem hd_X2_firstTime : yX2_firstTime.cls = RX2 ∧ yX2_firstTime.cls ≠ "java/lang/invoke/MethodHandle" ∧ yX2_firstTime.cls ≠ "java/lang/invoke/VarHandle" ∧ (parseMethodDescriptor yX2_firstTime.desc).map (fun d => d.parameters.length) = some 0 := by decide +kernel
theorem hd_X2_firstValue : yX2_firstValue.cls = RX2 ∧ yX2_firstValue.cls ≠ "java/lang/invoke/MethodHandle" ∧ yX2_firstValue.cls ≠ "java/lang/invoke/VarHandle" ∧ (parseMethodDescriptor yX2_firstValue.desc).map (fun d => d.parameters.length) = some 0 := by decide +kernel
theorem hd_X2_add : yX2_add.cls = RX2 ∧ yX2_add.cls ≠ "java/lang/invoke/MethodHandle" ∧ yX2_add.cls ≠ "java/lang/invoke/VarHandle" ∧ (parseMethodDescriptor yX2_add.desc).map (fun d => d.parameters.length) = some 3 := by decide +kernel
theorem hd_X2_isBehind : yX2_isBehind.cls = RX2 ∧ yX2_isBehind.cls ≠ "java/lang/invoke/MethodHandle" ∧ yX2_isBehind.cls ≠ "java/lang/invoke/VarHandle" ∧ (parseMethodDescriptor yX2_isBehind.desc).map (fun d => d.parameters.length) = some 3 := by decide +kernel
theorem hd_X2_removeFirst : yX2_removeFirst.cls = RX2 ∧ yX2_removeFirst.cls ≠ "java/lang/invoke/MethodHandle" ∧ yX2_removeFirst.cls ≠ "java/lang/invoke/VarHandle" ∧ (parseMethodDescriptor yX2_removeFirst.desc).map (fun d => d.parameters.length) = some 0 := by decide +kernel
theorem hd_X2_copyFrom : yX2_copyFrom.cls = RX2 ∧ yX2_copyFrom.cls ≠ "java/lang/invoke/MethodHandle" ∧ yX2_copyFrom.cls ≠ "java/lang/invoke/VarHandle" ∧ (parseMethodDescriptor yX2_copyFrom.desc).map (fun d => d.parameters.length) = some 1 := by decide +kernel
theorem hd_X3_beginAnew : yX3_beginAnew.cls = RX3 ∧ yX3_beginAnew.cls ≠ "java/lang/invoke/MethodHandle" ∧ yX3_beginAnew.cls ≠ "java/lang/invoke/VarHandle" ∧ (parseMethodDescriptor yX3_beginAnew.desc).map (fun d => d.parameters.length) = some 1 := by decide +kernel
theorem hd_X3_copyFrom : yX3_copyFrom.cls = RX3 ∧ yX3_copyFrom.cls ≠ "java/lang/invoke/MethodHandle" ∧ yX3_copyFrom.cls ≠ "java/lang/invoke/VarHandle" ∧ (parseMethodDescriptor yX3_copyFrom.desc).map (fun d => d.parameters.length) = some 1 := by decide +kernel
theorem hd_X3_roundsAndLetGo : yX3_roundsAndLetGo.cls = RX3 ∧ yX3_roundsAndLetGo.cls ≠ "java/lang/invoke/MethodHandle" ∧ yX3_roundsAndLetGo.cls ≠ "java/lang/invoke/VarHandle" ∧ (parseMethodDescriptor yX3_roundsAndLetGo.desc).map (fun d => d.parameters.length) = some 0 := by decide +kernel
theorem hd_X3_eventsThatWait : yX3_eventsThatWait.cls = RX3 ∧ yX3_eventsThatWait.cls ≠ "java/lang/invoke/MethodHandle" ∧ yX3_eventsThatWait.cls ≠ "java/lang/invoke/VarHandle" ∧ (parseMethodDescriptor yX3_eventsThatWait.desc).map (fun d => d.parameters.length) = some 0 := by decide +kernel
theorem hd_X3_partOfLeastTime : yX3_partOfLeastTime.cls = RX3 ∧ yX3_partOfLeastTime.cls ≠ "java/lang/invoke/MethodHandle" ∧ yX3_partOfLeastTime.cls ≠ "java/lang/invoke/VarHandle" ∧ (parseMethodDescriptor yX3_partOfLeastTime.desc).map (fun d => d.parameters.length) = some 0 := by decide +kernel
theorem hd_X3_leastTime : yX3_leastTime.cls = RX3 ∧ yX3_leastTime.cls ≠ "java/lang/invoke/MethodHandle" ∧ yX3_leastTime.cls ≠ "java/lang/invoke/VarHandle" ∧ (parseMethodDescriptor yX3_leastTime.desc).map (fun d => d.parameters.length) = some 0 := by decide +kernel
theorem hd_X3_safeOf : yX3_safeOf.cls = RX3 ∧ yX3_safeOf.cls ≠ "java/lang/invoke/MethodHandle" ∧ yX3_safeOf.cls ≠ "java/lang/invoke/VarHandle" ∧ (parseMethodDescriptor yX3_safeOf.desc).map (fun d => d.parameters.length) = some 1 := by decide +kernel
theorem hd_X3_mayWork : yX3_mayWork.cls = RX3 ∧ yX3_mayWork.cls ≠ "java/lang/invoke/MethodHandle" ∧ yX3_mayWork.cls ≠ "java/lang/invoke/VarHandle" ∧ (parseMethodDescriptor yX3_mayWork.desc).map (fun d => d.parameters.length) = some 1 := by decide +kernel
theorem hd_X3_partsThatMay : yX3_partsThatMay.cls = RX3 ∧ yX3_partsThatMay.cls ≠ "java/lang/invoke/MethodHandle" ∧ yX3_partsThatMay.cls ≠ "java/lang/invoke/VarHandle" ∧ (parseMethodDescriptor yX3_partsThatMay.desc).map (fun d => d.parameters.length) = some 0 := by decide +kernel
theorem hd_X3_channelWaitedFor : yX3_channelWaitedFor.cls = RX3 ∧ yX3_channelWaitedFor.cls ≠ "java/lang/invoke/MethodHandle" ∧ yX3_channelWaitedFor.cls ≠ "java/lang/invoke/VarHandle" ∧ (parseMethodDescriptor yX3_channelWaitedFor.desc).map (fun d => d.parameters.length) = some 1 := by decide +kernel
theorem hd_X3_hasWorkedAtOrBehind : yX3_hasWorkedAtOrBehind.cls = RX3 ∧ yX3_hasWorkedAtOrBehind.cls ≠ "java/lang/invoke/MethodHandle" ∧ yX3_hasWorkedAtOrBehind.cls ≠ "java/lang/invoke/VarHandle" ∧ (parseMethodDescriptor yX3_hasWorkedAtOrBehind.desc).map (fun d => d.parameters.length) = some 2 := by decide +kernel
theorem hd_X3_tellByHand : yX3_tellByHand.cls = RX3 ∧ yX3_tellByHand.cls ≠ "java/lang/invoke/MethodHandle" ∧ yX3_tellByHand.cls ≠ "java/lang/invoke/VarHandle" ∧ (parseMethodDescriptor yX3_tellByHand.desc).map (fun d => d.parameters.length) = some 3 := by decide +kernel
theorem hd_X3_workOnFirst : yX3_workOnFirst.cls = RX3 ∧ yX3_workOnFirst.cls ≠ "java/lang/invoke/MethodHandle" ∧ yX3_workOnFirst.cls ≠ "java/lang/invoke/VarHandle" ∧ (parseMethodDescriptor yX3_workOnFirst.desc).map (fun d => d.parameters.length) = some 1 := by decide +kernel
theorem hd_X3_sendLetter : yX3_sendLetter.cls = RX3 ∧ yX3_sendLetter.cls ≠ "java/lang/invoke/MethodHandle" ∧ yX3_sendLetter.cls ≠ "java/lang/invoke/VarHandle" ∧ (parseMethodDescriptor yX3_sendLetter.desc).map (fun d => d.parameters.length) = some 3 := by decide +kernel
theorem hd_X3_sendEmptyLetters : yX3_sendEmptyLetters.cls = RX3 ∧ yX3_sendEmptyLetters.cls ≠ "java/lang/invoke/MethodHandle" ∧ yX3_sendEmptyLetters.cls ≠ "java/lang/invoke/VarHandle" ∧ (parseMethodDescriptor yX3_sendEmptyLetters.desc).map (fun d => d.parameters.length) = some 1 := by decide +kernel
theorem hd_X3_emptyMayGo : yX3_emptyMayGo.cls = RX3 ∧ yX3_emptyMayGo.cls ≠ "java/lang/invoke/MethodHandle" ∧ yX3_emptyMayGo.cls ≠ "java/lang/invoke/VarHandle" ∧ (parseMethodDescriptor yX3_emptyMayGo.desc).map (fun d => d.parameters.length) = some 1 := by decide +kernel
theorem hd_X4_parts : yX4_parts.cls = RX4 ∧ yX4_parts.cls ≠ "java/lang/invoke/MethodHandle" ∧ yX4_parts.cls ≠ "java/lang/invoke/VarHandle" ∧ (parseMethodDescriptor yX4_parts.desc).map (fun d => d.parameters.length) = some 1 := by decide +kernel
theorem hd_X4_channel : yX4_channel.cls = RX4 ∧ yX4_channel.cls ≠ "java/lang/invoke/MethodHandle" ∧ yX4_channel.cls ≠ "java/lang/invoke/VarHandle" ∧ (parseMethodDescriptor yX4_channel.desc).map (fun d => d.parameters.length) = some 4 := by decide +kernel
theorem hd_X4_event : yX4_event.cls = RX4 ∧ yX4_event.cls ≠ "java/lang/invoke/MethodHandle" ∧ yX4_event.cls ≠ "java/lang/invoke/VarHandle" ∧ (parseMethodDescriptor yX4_event.desc).map (fun d => d.parameters.length) = some 3 := by decide +kernel
theorem hd_X4_form : yX4_form.cls = RX4 ∧ yX4_form.cls ≠ "java/lang/invoke/MethodHandle" ∧ yX4_form.cls ≠ "java/lang/invoke/VarHandle" ∧ (parseMethodDescriptor yX4_form.desc).map (fun d => d.parameters.length) = some 1 := by decide +kernel
theorem hd_X4_drift : yX4_drift.cls = RX4 ∧ yX4_drift.cls ≠ "java/lang/invoke/MethodHandle" ∧ yX4_drift.cls ≠ "java/lang/invoke/VarHandle" ∧ (parseMethodDescriptor yX4_drift.desc).map (fun d => d.parameters.length) = some 2 := by decide +kernel
theorem hd_X4_run : yX4_run.cls = RX4 ∧ yX4_run.cls ≠ "java/lang/invoke/MethodHandle" ∧ yX4_run.cls ≠ "java/lang/invoke/VarHandle" ∧ (parseMethodDescriptor yX4_run.desc).map (fun d => d.parameters.length) = some 1 := by decide +kernel
theorem hd_X4_letGo : yX4_letGo.cls = RX4 ∧ yX4_letGo.cls ≠ "java/lang/invoke/MethodHandle" ∧ yX4_letGo.cls ≠ "java/lang/invoke/VarHandle" ∧ (parseMethodDescriptor yX4_letGo.desc).map (fun d => d.parameters.length) = some 0 := by decide +kernel
theorem hd_X4_finish : yX4_finish.cls = RX4 ∧ yX4_finish.cls ≠ "java/lang/invoke/MethodHandle" ∧ yX4_finish.cls ≠ "java/lang/invoke/VarHandle" ∧ (parseMethodDescriptor yX4_finish.desc).map (fun d => d.parameters.length) = some 0 := by decide +kernel
theorem hd_X4_told : yX4_told.cls = RX4 ∧ yX4_told.cls ≠ "java/lang/invoke/MethodHandle" ∧ yX4_told.cls ≠ "java/lang/invoke/VarHandle" ∧ (parseMethodDescriptor yX4_told.desc).map (fun d => d.parameters.length) = some 1 := by decide +kernel
theorem hd_X4_part : yX4_part.cls = RX4 ∧ yX4_part.cls ≠ "java/lang/invoke/MethodHandle" ∧ yX4_part.cls ≠ "java/lang/invoke/VarHandle" ∧ (parseMethodDescriptor yX4_part.desc).map (fun d => d.parameters.length) = some 2 := by decide +kernel
theorem hd_X4_channelOf : yX4_channelOf.cls = RX4 ∧ yX4_channelOf.cls ≠ "java/lang/invoke/MethodHandle" ∧ yX4_channelOf.cls ≠ "java/lang/invoke/VarHandle" ∧ (parseMethodDescriptor yX4_channelOf.desc).map (fun d => d.parameters.length) = some 2 := by decide +kernel
theorem hd_X4_between : yX4_between.cls = RX4 ∧ yX4_between.cls ≠ "java/lang/invoke/MethodHandle" ∧ yX4_between.cls ≠ "java/lang/invoke/VarHandle" ∧ (parseMethodDescriptor yX4_between.desc).map (fun d => d.parameters.length) = some 2 := by decide +kernel
theorem hd_X4_record : yX4_record.cls = RX4 ∧ yX4_record.cls ≠ "java/lang/invoke/MethodHandle" ∧ yX4_record.cls ≠ "java/lang/invoke/VarHandle" ∧ (parseMethodDescriptor yX4_record.desc).map (fun d => d.parameters.length) = some 2 := by decide +kernel
theorem hd_X4_ring : yX4_ring.cls = RX4 ∧ yX4_ring.cls ≠ "java/lang/invoke/MethodHandle" ∧ yX4_ring.cls ≠ "java/lang/invoke/VarHandle" ∧ (parseMethodDescriptor yX4_ring.desc).map (fun d => d.parameters.length) = some 1 := by decide +kernel
theorem hd_X4_waits : yX4_waits.cls = RX4 ∧ yX4_waits.cls ≠ "java/lang/invoke/MethodHandle" ∧ yX4_waits.cls ≠ "java/lang/invoke/VarHandle" ∧ (parseMethodDescriptor yX4_waits.desc).map (fun d => d.parameters.length) = some 1 := by decide +kernel
theorem hd_X4_inOrder : yX4_inOrder.cls = RX4 ∧ yX4_inOrder.cls ≠ "java/lang/invoke/MethodHandle" ∧ yX4_inOrder.cls ≠ "java/lang/invoke/VarHandle" ∧ (parseMethodDescriptor yX4_inOrder.desc).map (fun d => d.parameters.length) = some 2 := by decide +kernel
theorem hd_X4_keep : yX4_keep.cls = RX4 ∧ yX4_keep.cls ≠ "java/lang/invoke/MethodHandle" ∧ yX4_keep.cls ≠ "java/lang/invoke/VarHandle" ∧ (parseMethodDescriptor yX4_keep.desc).map (fun d => d.parameters.length) = some 1 := by decide +kernel
theorem hd_X4_goBack : yX4_goBack.cls = RX4 ∧ yX4_goBack.cls ≠ "java/lang/invoke/MethodHandle" ∧ yX4_goBack.cls ≠ "java/lang/invoke/VarHandle" ∧ (parseMethodDescriptor yX4_goBack.desc).map (fun d => d.parameters.length) = some 1 := by decide +kernel
theorem hd_X4_isOutside : yX4_isOutside.cls = RX4 ∧ yX4_isOutside.cls ≠ "java/lang/invoke/MethodHandle" ∧ yX4_isOutside.cls ≠ "java/lang/invoke/VarHandle" ∧ (parseMethodDescriptor yX4_isOutside.desc).map (fun d => d.parameters.length) = some 3 := by decide +kernel
theorem hd_X4_isNoImage : yX4_isNoImage.cls = RX4 ∧ yX4_isNoImage.cls ≠ "java/lang/invoke/MethodHandle" ∧ yX4_isNoImage.cls ≠ "java/lang/invoke/VarHandle" ∧ (parseMethodDescriptor yX4_isNoImage.desc).map (fun d => d.parameters.length) = some 1 := by decide +kernel
theorem hd_X4_isNoPart : yX4_isNoPart.cls = RX4 ∧ yX4_isNoPart.cls ≠ "java/lang/invoke/MethodHandle" ∧ yX4_isNoPart.cls ≠ "java/lang/invoke/VarHandle" ∧ (parseMethodDescriptor yX4_isNoPart.desc).map (fun d => d.parameters.length) = some 1 := by decide +kernel
theorem hd_X4_areNotTwoParts : yX4_areNotTwoParts.cls = RX4 ∧ yX4_areNotTwoParts.cls ≠ "java/lang/invoke/MethodHandle" ∧ yX4_areNotTwoParts.cls ≠ "java/lang/invoke/VarHandle" ∧ (parseMethodDescriptor yX4_areNotTwoParts.desc).map (fun d => d.parameters.length) = some 2 := by decide +kernel
theorem hd_X4_refusalOfEvent : yX4_refusalOfEvent.cls = RX4 ∧ yX4_refusalOfEvent.cls ≠ "java/lang/invoke/MethodHandle" ∧ yX4_refusalOfEvent.cls ≠ "java/lang/invoke/VarHandle" ∧ (parseMethodDescriptor yX4_refusalOfEvent.desc).map (fun d => d.parameters.length) = some 3 := by decide +kernel
theorem hd_X4_nothingIsRun : yX4_nothingIsRun.cls = RX4 ∧ yX4_nothingIsRun.cls ≠ "java/lang/invoke/MethodHandle" ∧ yX4_nothingIsRun.cls ≠ "java/lang/invoke/VarHandle" ∧ (parseMethodDescriptor yX4_nothingIsRun.desc).map (fun d => d.parameters.length) = some 0 := by decide +kernel
theorem hd_X4_nextLot : yX4_nextLot.cls = RX4 ∧ yX4_nextLot.cls ≠ "java/lang/invoke/MethodHandle" ∧ yX4_nextLot.cls ≠ "java/lang/invoke/VarHandle" ∧ (parseMethodDescriptor yX4_nextLot.desc).map (fun d => d.parameters.length) = some 1 := by decide +kernel
theorem hd_X4_isStillAfterRound : yX4_isStillAfterRound.cls = RX4 ∧ yX4_isStillAfterRound.cls ≠ "java/lang/invoke/MethodHandle" ∧ yX4_isStillAfterRound.cls ≠ "java/lang/invoke/VarHandle" ∧ (parseMethodDescriptor yX4_isStillAfterRound.desc).map (fun d => d.parameters.length) = some 0 := by decide +kernel
theorem hd_X4_letEarliestGo : yX4_letEarliestGo.cls = RX4 ∧ yX4_letEarliestGo.cls ≠ "java/lang/invoke/MethodHandle" ∧ yX4_letEarliestGo.cls ≠ "java/lang/invoke/VarHandle" ∧ (parseMethodDescriptor yX4_letEarliestGo.desc).map (fun d => d.parameters.length) = some 0 := by decide +kernel
theorem hd_X4_workAndWriteDown : yX4_workAndWriteDown.cls = RX4 ∧ yX4_workAndWriteDown.cls ≠ "java/lang/invoke/MethodHandle" ∧ yX4_workAndWriteDown.cls ≠ "java/lang/invoke/VarHandle" ∧ (parseMethodDescriptor yX4_workAndWriteDown.desc).map (fun d => d.parameters.length) = some 1 := by decide +kernel
theorem hd_X4_leastPromisesRound : yX4_leastPromisesRound.cls = RX4 ∧ yX4_leastPromisesRound.cls ≠ "java/lang/invoke/MethodHandle" ∧ yX4_leastPromisesRound.cls ≠ "java/lang/invoke/VarHandle" ∧ (parseMethodDescriptor yX4_leastPromisesRound.desc).map (fun d => d.parameters.length) = some 1 := by decide +kernel
theorem hd_X5_in : yX5_in.cls = RX5 ∧ yX5_in.cls ≠ "java/lang/invoke/MethodHandle" ∧ yX5_in.cls ≠ "java/lang/invoke/VarHandle" ∧ (parseMethodDescriptor yX5_in.desc).map (fun d => d.parameters.length) = some 3 := by decide +kernel
theorem hd_X5_has : yX5_has.cls = RX5 ∧ yX5_has.cls ≠ "java/lang/invoke/MethodHandle" ∧ yX5_has.cls ≠ "java/lang/invoke/VarHandle" ∧ (parseMethodDescriptor yX5_has.desc).map (fun d => d.parameters.length) = some 2 := by decide +kernel
theorem hd_X5_copy : yX5_copy.cls = RX5 ∧ yX5_copy.cls ≠ "java/lang/invoke/MethodHandle" ∧ yX5_copy.cls ≠ "java/lang/invoke/VarHandle" ∧ (parseMethodDescriptor yX5_copy.desc).map (fun d => d.parameters.length) = some 2 := by decide +kernel
theorem hd_X5_isPart : yX5_isPart.cls = RX5 ∧ yX5_isPart.cls ≠ "java/lang/invoke/MethodHandle" ∧ yX5_isPart.cls ≠ "java/lang/invoke/VarHandle" ∧ (parseMethodDescriptor yX5_isPart.desc).map (fun d => d.parameters.length) = some 1 := by decide +kernel
theorem hd_X5_isChannel : yX5_isChannel.cls = RX5 ∧ yX5_isChannel.cls ≠ "java/lang/invoke/MethodHandle" ∧ yX5_isChannel.cls ≠ "java/lang/invoke/VarHandle" ∧ (parseMethodDescriptor yX5_isChannel.desc).map (fun d => d.parameters.length) = some 1 := by decide +kernel
theorem hd_X5_at : yX5_at.cls = RX5 ∧ yX5_at.cls ≠ "java/lang/invoke/MethodHandle" ∧ yX5_at.cls ≠ "java/lang/invoke/VarHandle" ∧ (parseMethodDescriptor yX5_at.desc).map (fun d => d.parameters.length) = some 2 := by decide +kernel
theorem hd_X5_parts : yX5_parts.cls = RX5 ∧ yX5_parts.cls ≠ "java/lang/invoke/MethodHandle" ∧ yX5_parts.cls ≠ "java/lang/invoke/VarHandle" ∧ (parseMethodDescriptor yX5_parts.desc).map (fun d => d.parameters.length) = some 1 := by decide +kernel
theorem hd_X5_wayOf : yX5_wayOf.cls = RX5 ∧ yX5_wayOf.cls ≠ "java/lang/invoke/MethodHandle" ∧ yX5_wayOf.cls ≠ "java/lang/invoke/VarHandle" ∧ (parseMethodDescriptor yX5_wayOf.desc).map (fun d => d.parameters.length) = some 2 := by decide +kernel
theorem hd_X5_channel : yX5_channel.cls = RX5 ∧ yX5_channel.cls ≠ "java/lang/invoke/MethodHandle" ∧ yX5_channel.cls ≠ "java/lang/invoke/VarHandle" ∧ (parseMethodDescriptor yX5_channel.desc).map (fun d => d.parameters.length) = some 4 := by decide +kernel
theorem hd_X5_comes : yX5_comes.cls = RX5 ∧ yX5_comes.cls ≠ "java/lang/invoke/MethodHandle" ∧ yX5_comes.cls ≠ "java/lang/invoke/VarHandle" ∧ (parseMethodDescriptor yX5_comes.desc).map (fun d => d.parameters.length) = some 5 := by decide +kernel
theorem hd_X5_waitFor : yX5_waitFor.cls = RX5 ∧ yX5_waitFor.cls ≠ "java/lang/invoke/MethodHandle" ∧ yX5_waitFor.cls ≠ "java/lang/invoke/VarHandle" ∧ (parseMethodDescriptor yX5_waitFor.desc).map (fun d => d.parameters.length) = some 2 := by decide +kernel
theorem hd_X5_isPromised : yX5_isPromised.cls = RX5 ∧ yX5_isPromised.cls ≠ "java/lang/invoke/MethodHandle" ∧ yX5_isPromised.cls ≠ "java/lang/invoke/VarHandle" ∧ (parseMethodDescriptor yX5_isPromised.desc).map (fun d => d.parameters.length) = some 2 := by decide +kernel
theorem hd_X5_event : yX5_event.cls = RX5 ∧ yX5_event.cls ≠ "java/lang/invoke/MethodHandle" ∧ yX5_event.cls ≠ "java/lang/invoke/VarHandle" ∧ (parseMethodDescriptor yX5_event.desc).map (fun d => d.parameters.length) = some 3 := by decide +kernel
theorem hd_X5_form : yX5_form.cls = RX5 ∧ yX5_form.cls ≠ "java/lang/invoke/MethodHandle" ∧ yX5_form.cls ≠ "java/lang/invoke/VarHandle" ∧ (parseMethodDescriptor yX5_form.desc).map (fun d => d.parameters.length) = some 1 := by decide +kernel
theorem hd_X5_draw : yX5_draw.cls = RX5 ∧ yX5_draw.cls ≠ "java/lang/invoke/MethodHandle" ∧ yX5_draw.cls ≠ "java/lang/invoke/VarHandle" ∧ (parseMethodDescriptor yX5_draw.desc).map (fun d => d.parameters.length) = some 1 := by decide +kernel
theorem hd_X5_drift : yX5_drift.cls = RX5 ∧ yX5_drift.cls ≠ "java/lang/invoke/MethodHandle" ∧ yX5_drift.cls ≠ "java/lang/invoke/VarHandle" ∧ (parseMethodDescriptor yX5_drift.desc).map (fun d => d.parameters.length) = some 2 := by decide +kernel
theorem hd_X5_isAhead : yX5_isAhead.cls = RX5 ∧ yX5_isAhead.cls ≠ "java/lang/invoke/MethodHandle" ∧ yX5_isAhead.cls ≠ "java/lang/invoke/VarHandle" ∧ (parseMethodDescriptor yX5_isAhead.desc).map (fun d => d.parameters.length) = some 2 := by decide +kernel
theorem hd_X5_firstOf : yX5_firstOf.cls = RX5 ∧ yX5_firstOf.cls ≠ "java/lang/invoke/MethodHandle" ∧ yX5_firstOf.cls ≠ "java/lang/invoke/VarHandle" ∧ (parseMethodDescriptor yX5_firstOf.desc).map (fun d => d.parameters.length) = some 2 := by decide +kernel
theorem hd_X5_firstTime : yX5_firstTime.cls = RX5 ∧ yX5_firstTime.cls ≠ "java/lang/invoke/MethodHandle" ∧ yX5_firstTime.cls ≠ "java/lang/invoke/VarHandle" ∧ (parseMethodDescriptor yX5_firstTime.desc).map (fun d => d.parameters.length) = some 2 := by decide +kernel
theorem hd_X5_leastTo : yX5_leastTo.cls = RX5 ∧ yX5_leastTo.cls ≠ "java/lang/invoke/MethodHandle" ∧ yX5_leastTo.cls ≠ "java/lang/invoke/VarHandle" ∧ (parseMethodDescriptor yX5_leastTo.desc).map (fun d => d.parameters.length) = some 1 := by decide +kernel
theorem hd_X5_safe : yX5_safe.cls = RX5 ∧ yX5_safe.cls ≠ "java/lang/invoke/MethodHandle" ∧ yX5_safe.cls ≠ "java/lang/invoke/VarHandle" ∧ (parseMethodDescriptor yX5_safe.desc).map (fun d => d.parameters.length) = some 1 := by decide +kernel
theorem hd_X5_may : yX5_may.cls = RX5 ∧ yX5_may.cls ≠ "java/lang/invoke/MethodHandle" ∧ yX5_may.cls ≠ "java/lang/invoke/VarHandle" ∧ (parseMethodDescriptor yX5_may.desc).map (fun d => d.parameters.length) = some 1 := by decide +kernel
theorem hd_X5_outOf : yX5_outOf.cls = RX5 ∧ yX5_outOf.cls ≠ "java/lang/invoke/MethodHandle" ∧ yX5_outOf.cls ≠ "java/lang/invoke/VarHandle" ∧ (parseMethodDescriptor yX5_outOf.desc).map (fun d => d.parameters.length) = some 2 := by decide +kernel
theorem hd_X5_outAt : yX5_outAt.cls = RX5 ∧ yX5_outAt.cls ≠ "java/lang/invoke/MethodHandle" ∧ yX5_outAt.cls ≠ "java/lang/invoke/VarHandle" ∧ (parseMethodDescriptor yX5_outAt.desc).map (fun d => d.parameters.length) = some 3 := by decide +kernel
theorem hd_X5_works : yX5_works.cls = RX5 ∧ yX5_works.cls ≠ "java/lang/invoke/MethodHandle" ∧ yX5_works.cls ≠ "java/lang/invoke/VarHandle" ∧ (parseMethodDescriptor yX5_works.desc).map (fun d => d.parameters.length) = some 2 := by decide +kernel
theorem hd_X5_empties : yX5_empties.cls = RX5 ∧ yX5_empties.cls ≠ "java/lang/invoke/MethodHandle" ∧ yX5_empties.cls ≠ "java/lang/invoke/VarHandle" ∧ (parseMethodDescriptor yX5_empties.desc).map (fun d => d.parameters.length) = some 1 := by decide +kernel
theorem hd_X5_rounds : yX5_rounds.cls = RX5 ∧ yX5_rounds.cls ≠ "java/lang/invoke/MethodHandle" ∧ yX5_rounds.cls ≠ "java/lang/invoke/VarHandle" ∧ (parseMethodDescriptor yX5_rounds.desc).map (fun d => d.parameters.length) = some 0 := by decide +kernel
theorem hd_X5_leastTime : yX5_leastTime.cls = RX5 ∧ yX5_leastTime.cls ≠ "java/lang/invoke/MethodHandle" ∧ yX5_leastTime.cls ≠ "java/lang/invoke/VarHandle" ∧ (parseMethodDescriptor yX5_leastTime.desc).map (fun d => d.parameters.length) = some 0 := by decide +kernel
theorem hd_X5_lets : yX5_lets.cls = RX5 ∧ yX5_lets.cls ≠ "java/lang/invoke/MethodHandle" ∧ yX5_lets.cls ≠ "java/lang/invoke/VarHandle" ∧ (parseMethodDescriptor yX5_lets.desc).map (fun d => d.parameters.length) = some 0 := by decide +kernel
theorem hd_X5_isRing : yX5_isRing.cls = RX5 ∧ yX5_isRing.cls ≠ "java/lang/invoke/MethodHandle" ∧ yX5_isRing.cls ≠ "java/lang/invoke/VarHandle" ∧ (parseMethodDescriptor yX5_isRing.desc).map (fun d => d.parameters.length) = some 0 := by decide +kernel
theorem hd_X5_canRun : yX5_canRun.cls = RX5 ∧ yX5_canRun.cls ≠ "java/lang/invoke/MethodHandle" ∧ yX5_canRun.cls ≠ "java/lang/invoke/VarHandle" ∧ (parseMethodDescriptor yX5_canRun.desc).map (fun d => d.parameters.length) = some 0 := by decide +kernel
theorem hd_X5_run : yX5_run.cls = RX5 ∧ yX5_run.cls ≠ "java/lang/invoke/MethodHandle" ∧ yX5_run.cls ≠ "java/lang/invoke/VarHandle" ∧ (parseMethodDescriptor yX5_run.desc).map (fun d => d.parameters.length) = some 1 := by decide +kernel
theorem hd_X5_allMay : yX5_allMay.cls = RX5 ∧ yX5_allMay.cls ≠ "java/lang/invoke/MethodHandle" ∧ yX5_allMay.cls ≠ "java/lang/invoke/VarHandle" ∧ (parseMethodDescriptor yX5_allMay.desc).map (fun d => d.parameters.length) = some 0 := by decide +kernel
theorem hd_X5_letGo : yX5_letGo.cls = RX5 ∧ yX5_letGo.cls ≠ "java/lang/invoke/MethodHandle" ∧ yX5_letGo.cls ≠ "java/lang/invoke/VarHandle" ∧ (parseMethodDescriptor yX5_letGo.desc).map (fun d => d.parameters.length) = some 0 := by decide +kernel
theorem hd_X5_finish : yX5_finish.cls = RX5 ∧ yX5_finish.cls ≠ "java/lang/invoke/MethodHandle" ∧ yX5_finish.cls ≠ "java/lang/invoke/VarHandle" ∧ (parseMethodDescriptor yX5_finish.desc).map (fun d => d.parameters.length) = some 0 := by decide +kernel
theorem hd_X5_told : yX5_told.cls = RX5 ∧ yX5_told.cls ≠ "java/lang/invoke/MethodHandle" ∧ yX5_told.cls ≠ "java/lang/invoke/VarHandle" ∧ (parseMethodDescriptor yX5_told.desc).map (fun d => d.parameters.length) = some 1 := by decide +kernel
theorem hd_X5_waitsBy : yX5_waitsBy.cls = RX5 ∧ yX5_waitsBy.cls ≠ "java/lang/invoke/MethodHandle" ∧ yX5_waitsBy.cls ≠ "java/lang/invoke/VarHandle" ∧ (parseMethodDescriptor yX5_waitsBy.desc).map (fun d => d.parameters.length) = some 1 := by decide +kernel
theorem hd_X5_waysTo : yX5_waysTo.cls = RX5 ∧ yX5_waysTo.cls ≠ "java/lang/invoke/MethodHandle" ∧ yX5_waysTo.cls ≠ "java/lang/invoke/VarHandle" ∧ (parseMethodDescriptor yX5_waysTo.desc).map (fun d => d.parameters.length) = some 1 := by decide +kernel
theorem hd_X5_firstValue : yX5_firstValue.cls = RX5 ∧ yX5_firstValue.cls ≠ "java/lang/invoke/MethodHandle" ∧ yX5_firstValue.cls ≠ "java/lang/invoke/VarHandle" ∧ (parseMethodDescriptor yX5_firstValue.desc).map (fun d => d.parameters.length) = some 1 := by decide +kernel
theorem hd_X5_part : yX5_part.cls = RX5 ∧ yX5_part.cls ≠ "java/lang/invoke/MethodHandle" ∧ yX5_part.cls ≠ "java/lang/invoke/VarHandle" ∧ (parseMethodDescriptor yX5_part.desc).map (fun d => d.parameters.length) = some 2 := by decide +kernel
theorem hd_X5_channelOf : yX5_channelOf.cls = RX5 ∧ yX5_channelOf.cls ≠ "java/lang/invoke/MethodHandle" ∧ yX5_channelOf.cls ≠ "java/lang/invoke/VarHandle" ∧ (parseMethodDescriptor yX5_channelOf.desc).map (fun d => d.parameters.length) = some 2 := by decide +kernel
theorem hd_X5_between : yX5_between.cls = RX5 ∧ yX5_between.cls ≠ "java/lang/invoke/MethodHandle" ∧ yX5_between.cls ≠ "java/lang/invoke/VarHandle" ∧ (parseMethodDescriptor yX5_between.desc).map (fun d => d.parameters.length) = some 2 := by decide +kernel
theorem hd_X5_record : yX5_record.cls = RX5 ∧ yX5_record.cls ≠ "java/lang/invoke/MethodHandle" ∧ yX5_record.cls ≠ "java/lang/invoke/VarHandle" ∧ (parseMethodDescriptor yX5_record.desc).map (fun d => d.parameters.length) = some 2 := by decide +kernel
theorem hd_X5_ringOf : yX5_ringOf.cls = RX5 ∧ yX5_ringOf.cls ≠ "java/lang/invoke/MethodHandle" ∧ yX5_ringOf.cls ≠ "java/lang/invoke/VarHandle" ∧ (parseMethodDescriptor yX5_ringOf.desc).map (fun d => d.parameters.length) = some 1 := by decide +kernel
theorem hd_X5_ring : yX5_ring.cls = RX5 ∧ yX5_ring.cls ≠ "java/lang/invoke/MethodHandle" ∧ yX5_ring.cls ≠ "java/lang/invoke/VarHandle" ∧ (parseMethodDescriptor yX5_ring.desc).map (fun d => d.parameters.length) = some 1 := by decide +kernel
theorem hd_X5_waits : yX5_waits.cls = RX5 ∧ yX5_waits.cls ≠ "java/lang/invoke/MethodHandle" ∧ yX5_waits.cls ≠ "java/lang/invoke/VarHandle" ∧ (parseMethodDescriptor yX5_waits.desc).map (fun d => d.parameters.length) = some 1 := by decide +kernel
theorem hd_X5_inOrder : yX5_inOrder.cls = RX5 ∧ yX5_inOrder.cls ≠ "java/lang/invoke/MethodHandle" ∧ yX5_inOrder.cls ≠ "java/lang/invoke/VarHandle" ∧ (parseMethodDescriptor yX5_inOrder.desc).map (fun d => d.parameters.length) = some 2 := by decide +kernel
theorem hd_X5_keep : yX5_keep.cls = RX5 ∧ yX5_keep.cls ≠ "java/lang/invoke/MethodHandle" ∧ yX5_keep.cls ≠ "java/lang/invoke/VarHandle" ∧ (parseMethodDescriptor yX5_keep.desc).map (fun d => d.parameters.length) = some 1 := by decide +kernel
theorem hd_X5_goBack : yX5_goBack.cls = RX5 ∧ yX5_goBack.cls ≠ "java/lang/invoke/MethodHandle" ∧ yX5_goBack.cls ≠ "java/lang/invoke/VarHandle" ∧ (parseMethodDescriptor yX5_goBack.desc).map (fun d => d.parameters.length) = some 1 := by decide +kernel
end
section
def jrem (x y : Int32) : Int32 := x - x / y * y
def jreml (x y : Int64) : Int64 := x - x / y * y
def jmax (x y : Int32) : Int32 := if x < y then y else x
def jmin (x y : Int32) : Int32 := if y < x then y else x
/-! X0_add -/
def f_X0_add (M : Mem) (this : Nat) (v1 : Int32) (v2 : Int32) (v3 : Int32) (v4 : Int32) : Option (Int32 × Mem) := if (rd M this 7) < (12 : Int32) then (nm (rd M this 7) (fun x2 => ck x2 12 (nm (wr M (this + 1) x2.toNatClampNeg v1) (fun M4 => ck x2 12 (nm (wr M4 (this + 2) x2.toNatClampNeg v2) (fun M6 => ck x2 12 (nm (wr M6 (this + 3) x2.toNatClampNeg v3) (fun M8 => ck x2 12 (nm (wr M8 (this + 4) x2.toNatClampNeg v4) (fun M10 => ck x2 12 (nm (wr M10 (this + 5) x2.toNatClampNeg (0 : Int32)) (fun M12 => ck x2 12 (nm (wr M12 (this + 6) x2.toNatClampNeg (0 : Int32)) (fun M14 => ck x2 12 (nm (wr M14 (this + 7) x2.toNatClampNeg (0 : Int32)) (fun M16 => nm (wr M16 this 7 ((rd M16 this 7) + (1 : Int32))) (fun M17 => some (x2, M17)))))))))))))))))) else (some ((-1 : Int32), M))
/-! X0_copyFrom -/
def f_X0_copyFrom (M : Mem) (this : Nat) (r1 : Nat) : Option Mem := cpk (0 : Int32) (0 : Int32) (12 : Int32) 12 12 (nm (cpM M (r1 + 1) (this + 1) (0 : Int32).toNatClampNeg (0 : Int32).toNatClampNeg (12 : Int32).toNatClampNeg) (fun M2 => cpk (0 : Int32) (0 : Int32) (12 : Int32) 12 12 (nm (cpM M2 (r1 + 2) (this + 2) (0 : Int32).toNatClampNeg (0 : Int32).toNatClampNeg (12 : Int32).toNatClampNeg) (fun M4 => cpk (0 : Int32) (0 : Int32) (12 : Int32) 12 12 (nm (cpM M4 (r1 + 3) (this + 3) (0 : Int32).toNatClampNeg (0 : Int32).toNatClampNeg (12 : Int32).toNatClampNeg) (fun M6 => cpk (0 : Int32) (0 : Int32) (12 : Int32) 12 12 (nm (cpM M6 (r1 + 4) (this + 4) (0 : Int32).toNatClampNeg (0 : Int32).toNatClampNeg (12 : Int32).toNatClampNeg) (fun M8 => cpk (0 : Int32) (0 : Int32) (12 : Int32) 12 12 (nm (cpM M8 (r1 + 5) (this + 5) (0 : Int32).toNatClampNeg (0 : Int32).toNatClampNeg (12 : Int32).toNatClampNeg) (fun M10 => cpk (0 : Int32) (0 : Int32) (12 : Int32) 12 12 (nm (cpM M10 (r1 + 6) (this + 6) (0 : Int32).toNatClampNeg (0 : Int32).toNatClampNeg (12 : Int32).toNatClampNeg) (fun M12 => cpk (0 : Int32) (0 : Int32) (12 : Int32) 12 12 (nm (cpM M12 (r1 + 7) (this + 7) (0 : Int32).toNatClampNeg (0 : Int32).toNatClampNeg (12 : Int32).toNatClampNeg) (fun M14 => nm (wr M14 this 7 (rd M14 r1 7)) (fun M15 => some M15)))))))))))))))
/-! X0_find -/
def f_X0_find_L32 (k2 : Int32 → Option Int32) (M : Mem) (this : Nat) (v1 : Int32) (v2 : Int32) (v3 : Int32) : Option Int32 := nm (v3 + (1 : Int32)) (fun x1 => k2 x1)
def f_X0_find_L2 (M : Mem) (this : Nat) (v1 : Int32) (v2 : Int32) : Nat → Int32 → Option Int32
  | 0, _ => none
  | n + 1, v3 => if (rd M this 7) ≤ v3 then (some (-1 : Int32)) else (ck v3 12 (if (rd M (this + 1) v3.toNatClampNeg) = v1 then (ck v3 12 (if (rd M (this + 2) v3.toNatClampNeg) = v2 then (some v3) else (f_X0_find_L32 (fun q3 => f_X0_find_L2 M this v1 v2 n q3) M this v1 v2 v3))) else (f_X0_find_L32 (fun q3 => f_X0_find_L2 M this v1 v2 n q3) M this v1 v2 v3)))
def f_X0_find (M : Mem) (this : Nat) (v1 : Int32) (v2 : Int32) : Option Int32 := f_X0_find_L2 M this v1 v2 1000 (0 : Int32)
/-! X0_countFrom -/
def f_X0_countFrom_L25 (k4 : Int32 → Int32 → Option Int32) (M : Mem) (this : Nat) (v1 : Int32) (v2 : Int32) (v3 : Int32) : Option Int32 := nm (v3 + (1 : Int32)) (fun x1 => k4 v2 x1)
def f_X0_countFrom_L4 (M : Mem) (this : Nat) (v1 : Int32) : Nat → Int32 → Int32 → Option Int32
  | 0, _, _ => none
  | n + 1, v2, v3 => if (rd M this 7) ≤ v3 then (some v2) else (ck v3 12 (if (rd M (this + 1) v3.toNatClampNeg) = v1 then (nm (v2 + (1 : Int32)) (fun x4 => f_X0_countFrom_L25 (fun q2 q3 => f_X0_countFrom_L4 M this v1 n q2 q3) M this v1 x4 v3)) else (f_X0_countFrom_L25 (fun q2 q3 => f_X0_countFrom_L4 M this v1 n q2 q3) M this v1 v2 v3)))
def f_X0_countFrom (M : Mem) (this : Nat) (v1 : Int32) : Option Int32 := f_X0_countFrom_L4 M this v1 1000 (0 : Int32) (0 : Int32)
/-! X0_countTo -/
def f_X0_countTo_L25 (k4 : Int32 → Int32 → Option Int32) (M : Mem) (this : Nat) (v1 : Int32) (v2 : Int32) (v3 : Int32) : Option Int32 := nm (v3 + (1 : Int32)) (fun x1 => k4 v2 x1)
def f_X0_countTo_L4 (M : Mem) (this : Nat) (v1 : Int32) : Nat → Int32 → Int32 → Option Int32
  | 0, _, _ => none
  | n + 1, v2, v3 => if (rd M this 7) ≤ v3 then (some v2) else (ck v3 12 (if (rd M (this + 2) v3.toNatClampNeg) = v1 then (nm (v2 + (1 : Int32)) (fun x4 => f_X0_countTo_L25 (fun q2 q3 => f_X0_countTo_L4 M this v1 n q2 q3) M this v1 x4 v3)) else (f_X0_countTo_L25 (fun q2 q3 => f_X0_countTo_L4 M this v1 n q2 q3) M this v1 v2 v3)))
def f_X0_countTo (M : Mem) (this : Nat) (v1 : Int32) : Option Int32 := f_X0_countTo_L4 M this v1 1000 (0 : Int32) (0 : Int32)
/-! X0_atPlaceFrom -/
def f_X0_atPlaceFrom_L36 (k5 : Int32 → Int32 → Option Int32) (M : Mem) (this : Nat) (v1 : Int32) (v2 : Int32) (v3 : Int32) (v4 : Int32) : Option Int32 := nm (v4 + (1 : Int32)) (fun x1 => k5 v3 x1)
def f_X0_atPlaceFrom_L5 (M : Mem) (this : Nat) (v1 : Int32) (v2 : Int32) : Nat → Int32 → Int32 → Option Int32
  | 0, _, _ => none
  | n + 1, v3, v4 => if (rd M this 7) ≤ v4 then (some (-1 : Int32)) else (ck v4 12 (if (rd M (this + 1) v4.toNatClampNeg) = v1 then (if v3 = v2 then (some v4) else (nm (v3 + (1 : Int32)) (fun x5 => f_X0_atPlaceFrom_L36 (fun q3 q4 => f_X0_atPlaceFrom_L5 M this v1 v2 n q3 q4) M this v1 v2 x5 v4))) else (f_X0_atPlaceFrom_L36 (fun q3 q4 => f_X0_atPlaceFrom_L5 M this v1 v2 n q3 q4) M this v1 v2 v3 v4)))
def f_X0_atPlaceFrom (M : Mem) (this : Nat) (v1 : Int32) (v2 : Int32) : Option Int32 := f_X0_atPlaceFrom_L5 M this v1 v2 1000 (0 : Int32) (0 : Int32)
/-! X0_ofLeastClockTo -/
def f_X0_ofLeastClockTo_L44 (k4 : Int32 → Int32 → Option Int32) (M : Mem) (this : Nat) (v1 : Int32) (v2 : Int32) (v3 : Int32) : Option Int32 := nm (v3 + (1 : Int32)) (fun x1 => k4 v2 x1)
def f_X0_ofLeastClockTo_L42 (k4 : Int32 → Int32 → Option Int32) (M : Mem) (this : Nat) (v1 : Int32) (v3 : Int32) : Option Int32 := f_X0_ofLeastClockTo_L44 k4 M this v1 v3 v3
def f_X0_ofLeastClockTo_L4 (M : Mem) (this : Nat) (v1 : Int32) : Nat → Int32 → Int32 → Option Int32
  | 0, _, _ => none
  | n + 1, v2, v3 => if (rd M this 7) ≤ v3 then (some v2) else (ck v3 12 (if (rd M (this + 2) v3.toNatClampNeg) = v1 then (if v2 = (-1 : Int32) then (f_X0_ofLeastClockTo_L42 (fun q2 q3 => f_X0_ofLeastClockTo_L4 M this v1 n q2 q3) M this v1 v3) else (ck v3 12 (ck v2 12 (if (rd M (this + 5) v2.toNatClampNeg) ≤ (rd M (this + 5) v3.toNatClampNeg) then (f_X0_ofLeastClockTo_L44 (fun q2 q3 => f_X0_ofLeastClockTo_L4 M this v1 n q2 q3) M this v1 v2 v3) else (f_X0_ofLeastClockTo_L42 (fun q2 q3 => f_X0_ofLeastClockTo_L4 M this v1 n q2 q3) M this v1 v3))))) else (f_X0_ofLeastClockTo_L44 (fun q2 q3 => f_X0_ofLeastClockTo_L4 M this v1 n q2 q3) M this v1 v2 v3)))
def f_X0_ofLeastClockTo (M : Mem) (this : Nat) (v1 : Int32) : Option Int32 := f_X0_ofLeastClockTo_L4 M this v1 1000 (-1 : Int32) (0 : Int32)
/-! X0_promiseMoreThan -/
def f_X0_promiseMoreThan_L39 (k2 : Int32 → Option Int32) (M : Mem) (this : Nat) (v1 : Int32) (v2 : Int32) (v3 : Int32) : Option Int32 := nm (v3 + (1 : Int32)) (fun x1 => k2 x1)
def f_X0_promiseMoreThan_L2 (M : Mem) (this : Nat) (v1 : Int32) (v2 : Int32) : Nat → Int32 → Option Int32
  | 0, _ => none
  | n + 1, v3 => if (rd M this 7) ≤ v3 then (some (0 : Int32)) else (ck v3 12 (if (rd M (this + 1) v3.toNatClampNeg) = v1 then (ck v3 12 (ck v3 12 (if (rd M (this + 5) v3.toNatClampNeg) ≤ (v2 + (rd M (this + 3) v3.toNatClampNeg)) then (f_X0_promiseMoreThan_L39 (fun q3 => f_X0_promiseMoreThan_L2 M this v1 v2 n q3) M this v1 v2 v3) else (some (1 : Int32))))) else (f_X0_promiseMoreThan_L39 (fun q3 => f_X0_promiseMoreThan_L2 M this v1 v2 n q3) M this v1 v2 v3)))
def f_X0_promiseMoreThan (M : Mem) (this : Nat) (v1 : Int32) (v2 : Int32) : Option Int32 := f_X0_promiseMoreThan_L2 M this v1 v2 1000 (0 : Int32)
/-! X0_raiseClocks -/
def f_X0_raiseClocks_L2 (this : Nat) (v1 : Int32) : Nat → Mem → Int32 → Option Mem
  | 0, _, _ => none
  | n + 1, M, v2 => if (rd M this 7) ≤ v2 then (some M) else (ck v2 12 (ck v2 12 (nm (wr M (this + 5) v2.toNatClampNeg (jmax (rd M (this + 5) v2.toNatClampNeg) v1)) (fun M4 => nm (v2 + (1 : Int32)) (fun x5 => f_X0_raiseClocks_L2 this v1 n M4 x5)))))
def f_X0_raiseClocks (M : Mem) (this : Nat) (v1 : Int32) : Option Mem := f_X0_raiseClocks_L2 this v1 1000 M (0 : Int32)
/-! X0_reachedWithoutPromise -/
def f_X0_reachedWithoutPromise_L82 (k5 : Int32 → Int32 → Option Int32) (k14 : Int32 → Int32 → Option Int32) (M : Mem) (this : Nat) (v1 : Int32) (v2 : Int32) (v3 : Int32) (v4 : Int32) (v5 : Int32) : Option Int32 := nm (v5 + (1 : Int32)) (fun x1 => k14 v3 x1)
def f_X0_reachedWithoutPromise_L53 (k5 : Int32 → Int32 → Option Int32) (k14 : Int32 → Int32 → Option Int32) (M : Mem) (this : Nat) (v1 : Int32) (v2 : Int32) (v3 : Int32) (v4 : Int32) (v5 : Int32) (s0 : Int32) : Option Int32 := ck v5 12 (if (rd M (this + 3) v5.toNatClampNeg) = (0 : Int32) then (if s0 = (0 : Int32) then (f_X0_reachedWithoutPromise_L82 k5 k14 M this v1 v2 v3 v4 v5) else (ck v5 12 (nm (v3 ||| ((1 : Int32) <<< ((rd M (this + 2) v5.toNatClampNeg) &&& 31))) (fun x5 => f_X0_reachedWithoutPromise_L82 k5 k14 M this v1 v2 x5 v4 v5)))) else (f_X0_reachedWithoutPromise_L82 k5 k14 M this v1 v2 v3 v4 v5))
def f_X0_reachedWithoutPromise_L48 (k5 : Int32 → Int32 → Option Int32) (k14 : Int32 → Int32 → Option Int32) (M : Mem) (this : Nat) (v1 : Int32) (v2 : Int32) (v3 : Int32) (v4 : Int32) (v5 : Int32) : Option Int32 := f_X0_reachedWithoutPromise_L53 k5 k14 M this v1 v2 v3 v4 v5 (1 : Int32)
def f_X0_reachedWithoutPromise_L88 (k5 : Int32 → Int32 → Option Int32) (M : Mem) (this : Nat) (v1 : Int32) (v2 : Int32) (v3 : Int32) (v4 : Int32) : Option Int32 := nm (v4 + (1 : Int32)) (fun x1 => k5 v3 x1)
def f_X0_reachedWithoutPromise_L14 (k5 : Int32 → Int32 → Option Int32) (M : Mem) (this : Nat) (v1 : Int32) (v2 : Int32) (v4 : Int32) : Nat → Int32 → Int32 → Option Int32
  | 0, _, _ => none
  | n + 1, v3, v5 => if (rd M this 7) ≤ v5 then (f_X0_reachedWithoutPromise_L88 k5 M this v1 v2 v3 v4) else (ck v5 12 (if (rd M (this + 1) v5.toNatClampNeg) = v1 then (f_X0_reachedWithoutPromise_L48 k5 (fun q3 q5 => f_X0_reachedWithoutPromise_L14 k5 M this v1 v2 v4 n q3 q5) M this v1 v2 v3 v4 v5) else (ck v5 12 (if (v3 &&& ((1 : Int32) <<< ((rd M (this + 1) v5.toNatClampNeg) &&& 31))) = (0 : Int32) then (f_X0_reachedWithoutPromise_L53 k5 (fun q3 q5 => f_X0_reachedWithoutPromise_L14 k5 M this v1 v2 v4 n q3 q5) M this v1 v2 v3 v4 v5 (0 : Int32)) else (f_X0_reachedWithoutPromise_L48 k5 (fun q3 q5 => f_X0_reachedWithoutPromise_L14 k5 M this v1 v2 v4 n q3 q5) M this v1 v2 v3 v4 v5)))))
def f_X0_reachedWithoutPromise_L5 (M : Mem) (this : Nat) (v1 : Int32) (v2 : Int32) : Nat → Int32 → Int32 → Option Int32
  | 0, _, _ => none
  | n + 1, v3, v4 => if v2 ≤ v4 then (some v3) else (f_X0_reachedWithoutPromise_L14 (fun q3 q4 => f_X0_reachedWithoutPromise_L5 M this v1 v2 n q3 q4) M this v1 v2 v4 1000 v3 (0 : Int32))
def f_X0_reachedWithoutPromise (M : Mem) (this : Nat) (v1 : Int32) (v2 : Int32) : Option Int32 := f_X0_reachedWithoutPromise_L5 M this v1 v2 1000 (0 : Int32) (0 : Int32)
/-! X0_hasRingWithoutPromise -/
def f_X0_hasRingWithoutPromise_L2 (M : Mem) (this : Nat) (v1 : Int32) : Nat → Int32 → Option Int32
  | 0, _ => none
  | n + 1, v2 => if v1 ≤ v2 then (some (0 : Int32)) else (bd (f_X0_reachedWithoutPromise M this v2 v1) (fun x2 => if (x2 &&& ((1 : Int32) <<< (v2 &&& 31))) = (0 : Int32) then (nm (v2 + (1 : Int32)) (fun x5 => f_X0_hasRingWithoutPromise_L2 M this v1 n x5)) else (some (1 : Int32))))
def f_X0_hasRingWithoutPromise (M : Mem) (this : Nat) (v1 : Int32) : Option Int32 := f_X0_hasRingWithoutPromise_L2 M this v1 1000 (0 : Int32)
/-! X1_clear -/
def f_X1_clear (M : Mem) (this : Nat) : Option Mem := nm (wr M this 4 (0 : Int32)) (fun M1 => some M1)
/-! X1_add -/
def f_X1_add (M : Mem) (this : Nat) (v1 : Int32) (v2 : Int32) (v3 : Int32) (v4 : Int32) : Option Mem := if (rd M this 4) < (200 : Int32) then (ck (rd M this 4) 200 (nm (wr M (this + 1) (rd M this 4).toNatClampNeg v1) (fun M3 => ck (rd M3 this 4) 200 (nm (wr M3 (this + 2) (rd M3 this 4).toNatClampNeg v2) (fun M5 => ck (rd M5 this 4) 200 (nm (wr M5 (this + 3) (rd M5 this 4).toNatClampNeg v3) (fun M7 => ck (rd M7 this 4) 200 (nm (wr M7 (this + 4) (rd M7 this 4).toNatClampNeg v4) (fun M9 => nm (wr M9 this 4 ((rd M9 this 4) + (1 : Int32))) (fun M10 => some M10)))))))))) else (some M)
/-! X2_firstTime -/
def f_X2_firstTime_L18 (M : Mem) (this : Nat) (s0 : Int32) : Option Int32 := some s0
def f_X2_firstTime (M : Mem) (this : Nat) : Option Int32 := if (rd M this 3) = (0 : Int32) then (f_X2_firstTime_L18 M this (99999999 : Int32)) else (ck (0 : Int32) 30 (f_X2_firstTime_L18 M this (rd M (this + 1) (0 : Int32).toNatClampNeg)))
/-! X2_firstValue -/
def f_X2_firstValue_L17 (M : Mem) (this : Nat) (s0 : Int32) : Option Int32 := some s0
def f_X2_firstValue (M : Mem) (this : Nat) : Option Int32 := if (rd M this 3) = (0 : Int32) then (f_X2_firstValue_L17 M this (-1 : Int32)) else (ck (0 : Int32) 30 (f_X2_firstValue_L17 M this (rd M (this + 2) (0 : Int32).toNatClampNeg)))
/-! X2_isBehind -/
def f_X2_isBehind_L35 (M : Mem) (this : Nat) (s0 : Int32) : Option Int32 := zk s0 (some s0)
def f_X2_isBehind_L30 (M : Mem) (this : Nat) : Option Int32 := f_X2_isBehind_L35 M this (1 : Int32)
def f_X2_isBehind_L34 (M : Mem) (this : Nat) : Option Int32 := f_X2_isBehind_L35 M this (0 : Int32)
def f_X2_isBehind (M : Mem) (this : Nat) (v1 : Int32) (v2 : Int32) (v3 : Int32) : Option Int32 := ck v1 30 (if v2 < (rd M (this + 1) v1.toNatClampNeg) then (f_X2_isBehind_L30 M this) else (ck v1 30 (if (rd M (this + 1) v1.toNatClampNeg) = v2 then (ck v1 30 (if (rd M (this + 3) v1.toNatClampNeg) ≤ v3 then (f_X2_isBehind_L34 M this) else (f_X2_isBehind_L30 M this))) else (f_X2_isBehind_L34 M this))))
/-! X2_add -/
def f_X2_add_L88 (M : Mem) (this : Nat) (v1 : Int32) (v2 : Int32) (v3 : Int32) (v4 : Int32) : Option Mem := ck v4 30 (nm (wr M (this + 1) v4.toNatClampNeg v1) (fun M2 => ck v4 30 (nm (wr M2 (this + 2) v4.toNatClampNeg v2) (fun M4 => ck v4 30 (nm (wr M4 (this + 3) v4.toNatClampNeg v3) (fun M6 => nm (wr M6 this 3 ((rd M6 this 3) + (1 : Int32))) (fun M7 => some M7)))))))
def f_X2_add_L16 (this : Nat) (v1 : Int32) (v2 : Int32) (v3 : Int32) : Nat → Mem → Int32 → Option Mem
  | 0, _, _ => none
  | n + 1, M, v4 => if v4 ≤ (0 : Int32) then (f_X2_add_L88 M this v1 v2 v3 v4) else (bd (f_X2_isBehind M this (v4 - (1 : Int32)) v1 v3) (fun x2 => if x2 = (0 : Int32) then (f_X2_add_L88 M this v1 v2 v3 v4) else (ck (v4 - (1 : Int32)) 30 (ck v4 30 (nm (wr M (this + 1) v4.toNatClampNeg (rd M (this + 1) (v4 - (1 : Int32)).toNatClampNeg)) (fun M7 => ck (v4 - (1 : Int32)) 30 (ck v4 30 (nm (wr M7 (this + 2) v4.toNatClampNeg (rd M7 (this + 2) (v4 - (1 : Int32)).toNatClampNeg)) (fun M10 => ck (v4 - (1 : Int32)) 30 (ck v4 30 (nm (wr M10 (this + 3) v4.toNatClampNeg (rd M10 (this + 3) (v4 - (1 : Int32)).toNatClampNeg)) (fun M13 => nm (v4 + (-1 : Int32)) (fun x14 => f_X2_add_L16 this v1 v2 v3 n M13 x14)))))))))))))
def f_X2_add (M : Mem) (this : Nat) (v1 : Int32) (v2 : Int32) (v3 : Int32) : Option Mem := if (rd M this 3) < (30 : Int32) then (nm (rd M this 3) (fun x2 => f_X2_add_L16 this v1 v2 v3 1000 M x2)) else (some M)
/-! X2_removeFirst -/
def f_X2_removeFirst (M : Mem) (this : Nat) : Option Mem := if (rd M this 3) = (0 : Int32) then (some M) else (nm (wr M this 3 ((rd M this 3) - (1 : Int32))) (fun M2 => cpk (1 : Int32) (0 : Int32) (rd M2 this 3) 30 30 (nm (cpM M2 (this + 1) (this + 1) (1 : Int32).toNatClampNeg (0 : Int32).toNatClampNeg (rd M2 this 3).toNatClampNeg) (fun M4 => cpk (1 : Int32) (0 : Int32) (rd M4 this 3) 30 30 (nm (cpM M4 (this + 2) (this + 2) (1 : Int32).toNatClampNeg (0 : Int32).toNatClampNeg (rd M4 this 3).toNatClampNeg) (fun M6 => cpk (1 : Int32) (0 : Int32) (rd M6 this 3) 30 30 (nm (cpM M6 (this + 3) (this + 3) (1 : Int32).toNatClampNeg (0 : Int32).toNatClampNeg (rd M6 this 3).toNatClampNeg) (fun M8 => some M8))))))))
/-! X2_copyFrom -/
def f_X2_copyFrom (M : Mem) (this : Nat) (r1 : Nat) : Option Mem := cpk (0 : Int32) (0 : Int32) (rd M r1 3) 30 30 (nm (cpM M (r1 + 1) (this + 1) (0 : Int32).toNatClampNeg (0 : Int32).toNatClampNeg (rd M r1 3).toNatClampNeg) (fun M2 => cpk (0 : Int32) (0 : Int32) (rd M2 r1 3) 30 30 (nm (cpM M2 (r1 + 2) (this + 2) (0 : Int32).toNatClampNeg (0 : Int32).toNatClampNeg (rd M2 r1 3).toNatClampNeg) (fun M4 => cpk (0 : Int32) (0 : Int32) (rd M4 r1 3) 30 30 (nm (cpM M4 (r1 + 3) (this + 3) (0 : Int32).toNatClampNeg (0 : Int32).toNatClampNeg (rd M4 r1 3).toNatClampNeg) (fun M6 => nm (wr M6 this 3 (rd M6 r1 3)) (fun M7 => some M7)))))))
/-! X3_beginAnew -/
def f_X3_beginAnew_L10 (this : Nat) (v1 : Int32) : Nat → Mem → Int32 → Option Mem
  | 0, _, _ => none
  | n + 1, M, v2 => if (6 : Int32) ≤ v2 then (nm (wr M this 5 v1) (fun M2 => nm (wr M2 this 7 (0 : Int32)) (fun M3 => nm (wr M3 this 8 (0 : Int32)) (fun M4 => nm (wr M4 this 9 (0 : Int32)) (fun M5 => nm (wr M5 this 10 (0 : Int32)) (fun M6 => nm (wr M6 this 11 (0 : Int32)) (fun M7 => some M7))))))) else (ck v2 6 (nm (wr M (this + 12 + 1 + 4 * v2.toNatClampNeg) 3 (0 : Int32)) (fun M9 => ck v2 6 (nm (wr M9 (this + 9) v2.toNatClampNeg (0 : Int32)) (fun M11 => ck v2 6 (nm (wr M11 (this + 10) v2.toNatClampNeg (0 : Int32)) (fun M13 => ck v2 6 (nm (wr M13 (this + 11) v2.toNatClampNeg (0 : Int32)) (fun M15 => nm (v2 + (1 : Int32)) (fun x16 => f_X3_beginAnew_L10 this v1 n M15 x16))))))))))
def f_X3_beginAnew (M : Mem) (this : Nat) (v1 : Int32) : Option Mem := nm (wr M (this + 1) 7 (0 : Int32)) (fun M1 => f_X3_beginAnew_L10 this v1 1000 M1 (0 : Int32))
/-! X3_copyFrom -/
def f_X3_copyFrom_L13 (this : Nat) (r1 : Nat) : Nat → Mem → Int32 → Option Mem
  | 0, _, _ => none
  | n + 1, M, v2 => if (6 : Int32) ≤ v2 then (nm (wr M this 5 (rd M r1 5)) (fun M2 => nm (wr M2 this 6 (rd M2 r1 6)) (fun M3 => nm (wr M3 this 7 (rd M3 r1 7)) (fun M4 => nm (wr M4 this 8 (rd M4 r1 8)) (fun M5 => nm (wr M5 this 9 (rd M5 r1 9)) (fun M6 => nm (wr M6 this 10 (rd M6 r1 10)) (fun M7 => nm (wr M7 this 11 (rd M7 r1 11)) (fun M8 => some M8)))))))) else (ck v2 6 (ck v2 6 (bd (f_X2_copyFrom M (this + 12 + 1 + 4 * v2.toNatClampNeg) (r1 + 12 + 1 + 4 * v2.toNatClampNeg)) (fun M11 => ck v2 6 (ck v2 6 (nm (wr M11 (this + 9) v2.toNatClampNeg (rd M11 (r1 + 9) v2.toNatClampNeg)) (fun M16 => ck v2 6 (ck v2 6 (nm (wr M16 (this + 10) v2.toNatClampNeg (rd M16 (r1 + 10) v2.toNatClampNeg)) (fun M19 => ck v2 6 (ck v2 6 (nm (wr M19 (this + 11) v2.toNatClampNeg (rd M19 (r1 + 11) v2.toNatClampNeg)) (fun M22 => nm (v2 + (1 : Int32)) (fun x23 => f_X3_copyFrom_L13 this r1 n M22 x23))))))))))))))
def f_X3_copyFrom (M : Mem) (this : Nat) (r1 : Nat) : Option Mem := bd (f_X0_copyFrom M (this + 1) (r1 + 1)) (fun M1 => f_X3_copyFrom_L13 this r1 1000 M1 (0 : Int32))
/-! X3_roundsAndLetGo -/
def f_X3_roundsAndLetGo (M : Mem) (this : Nat) : Option Int32 := some ((rd M this 9) + (rd M this 10))
/-! X3_eventsThatWait -/
def f_X3_eventsThatWait_L4 (M : Mem) (this : Nat) : Nat → Int32 → Int32 → Option Int32
  | 0, _, _ => none
  | n + 1, v1, v2 => if (rd M this 5) ≤ v2 then (some v1) else (ck v2 6 (nm (v1 + (rd M (this + 12 + 1 + 4 * v2.toNatClampNeg) 3)) (fun x3 => nm (v2 + (1 : Int32)) (fun x4 => f_X3_eventsThatWait_L4 M this n x3 x4))))
def f_X3_eventsThatWait (M : Mem) (this : Nat) : Option Int32 := f_X3_eventsThatWait_L4 M this 1000 (0 : Int32) (0 : Int32)
/-! X3_partOfLeastTime -/
def f_X3_partOfLeastTime_L35 (k4 : Int32 → Int32 → Option Int32) (M : Mem) (this : Nat) (v1 : Int32) (v2 : Int32) : Option Int32 := nm (v2 + (1 : Int32)) (fun x1 => k4 v1 x1)
def f_X3_partOfLeastTime_L4 (M : Mem) (this : Nat) : Nat → Int32 → Int32 → Option Int32
  | 0, _, _ => none
  | n + 1, v1, v2 => if (rd M this 5) ≤ v2 then (some v1) else (ck v2 6 (bd (f_X2_firstTime M (this + 12 + 1 + 4 * v2.toNatClampNeg)) (fun x3 => ck v1 6 (bd (f_X2_firstTime M (this + 12 + 1 + 4 * v1.toNatClampNeg)) (fun x6 => if x6 ≤ x3 then (f_X3_partOfLeastTime_L35 (fun q1 q2 => f_X3_partOfLeastTime_L4 M this n q1 q2) M this v1 v2) else (f_X3_partOfLeastTime_L35 (fun q1 q2 => f_X3_partOfLeastTime_L4 M this n q1 q2) M this v2 v2))))))
def f_X3_partOfLeastTime (M : Mem) (this : Nat) : Option Int32 := f_X3_partOfLeastTime_L4 M this 1000 (0 : Int32) (1 : Int32)
/-! X3_leastTime -/
def f_X3_leastTime (M : Mem) (this : Nat) : Option Int32 := bd (f_X3_partOfLeastTime M this) (fun x1 => ck x1 6 (bd (f_X2_firstTime M (this + 12 + 1 + 4 * x1.toNatClampNeg)) (fun x4 => some x4)))
/-! X3_safeOf -/
def f_X3_safeOf_L28 (M : Mem) (this : Nat) (s0 : Int32) : Option Int32 := some s0
def f_X3_safeOf (M : Mem) (this : Nat) (v1 : Int32) : Option Int32 := bd (f_X0_ofLeastClockTo M (this + 1) v1) (fun x1 => if x1 = (-1 : Int32) then (f_X3_safeOf_L28 M this (99999999 : Int32)) else (ck x1 12 (f_X3_safeOf_L28 M this (rd M (this + 1 + 5) x1.toNatClampNeg))))
/-! X3_mayWork -/
def f_X3_mayWork_L22 (M : Mem) (this : Nat) (s0 : Int32) : Option Int32 := zk s0 (some s0)
def f_X3_mayWork (M : Mem) (this : Nat) (v1 : Int32) : Option Int32 := ck v1 6 (bd (f_X2_firstTime M (this + 12 + 1 + 4 * v1.toNatClampNeg)) (fun x2 => bd (f_X3_safeOf M this v1) (fun x4 => if x4 ≤ x2 then (f_X3_mayWork_L22 M this (0 : Int32)) else (f_X3_mayWork_L22 M this (1 : Int32)))))
/-! X3_partsThatMay -/
def f_X3_partsThatMay_L26 (k4 : Int32 → Int32 → Option Int32) (M : Mem) (this : Nat) (v1 : Int32) (v2 : Int32) : Option Int32 := nm (v2 + (1 : Int32)) (fun x1 => k4 v1 x1)
def f_X3_partsThatMay_L4 (M : Mem) (this : Nat) : Nat → Int32 → Int32 → Option Int32
  | 0, _, _ => none
  | n + 1, v1, v2 => if (rd M this 5) ≤ v2 then (some v1) else (bd (f_X3_mayWork M this v2) (fun x2 => if x2 = (0 : Int32) then (f_X3_partsThatMay_L26 (fun q1 q2 => f_X3_partsThatMay_L4 M this n q1 q2) M this v1 v2) else (nm (v1 ||| ((1 : Int32) <<< (v2 &&& 31))) (fun x5 => f_X3_partsThatMay_L26 (fun q1 q2 => f_X3_partsThatMay_L4 M this n q1 q2) M this x5 v2))))
def f_X3_partsThatMay (M : Mem) (this : Nat) : Option Int32 := f_X3_partsThatMay_L4 M this 1000 (0 : Int32) (0 : Int32)
/-! X3_channelWaitedFor -/
def f_X3_channelWaitedFor_L47 (M : Mem) (this : Nat) : Option Int32 := some (-1 : Int32)
def f_X3_channelWaitedFor (M : Mem) (this : Nat) (v1 : Int32) : Option Int32 := bd (f_X0_ofLeastClockTo M (this + 1) v1) (fun x1 => if x1 = (-1 : Int32) then (f_X3_channelWaitedFor_L47 M this) else (ck v1 6 (if (rd M (this + 12 + 1 + 4 * v1.toNatClampNeg) 3) = (0 : Int32) then (f_X3_channelWaitedFor_L47 M this) else (ck v1 6 (bd (f_X2_firstTime M (this + 12 + 1 + 4 * v1.toNatClampNeg)) (fun x7 => ck x1 12 (if (rd M (this + 1 + 5) x1.toNatClampNeg) ≤ x7 then (some x1) else (f_X3_channelWaitedFor_L47 M this))))))))
/-! X3_hasWorkedAtOrBehind -/
def f_X3_hasWorkedAtOrBehind_L24 (M : Mem) (this : Nat) (s0 : Int32) : Option Int32 := zk s0 (some s0)
def f_X3_hasWorkedAtOrBehind_L23 (M : Mem) (this : Nat) : Option Int32 := f_X3_hasWorkedAtOrBehind_L24 M this (0 : Int32)
def f_X3_hasWorkedAtOrBehind (M : Mem) (this : Nat) (v1 : Int32) (v2 : Int32) : Option Int32 := ck v1 6 (if (rd M (this + 9) v1.toNatClampNeg) ≤ (0 : Int32) then (f_X3_hasWorkedAtOrBehind_L23 M this) else (ck v1 6 (if (rd M (this + 11) v1.toNatClampNeg) < v2 then (f_X3_hasWorkedAtOrBehind_L23 M this) else (f_X3_hasWorkedAtOrBehind_L24 M this (1 : Int32)))))
/-! X3_tellByHand -/
def f_X3_tellByHand (M : Mem) (this : Nat) (v1 : Int32) (v2 : Int32) (v3 : Int32) : Option (Int32 × Mem) := ck v1 6 (bd (f_X2_add M (this + 12 + 1 + 4 * v1.toNatClampNeg) v2 v3 (-1 : Int32)) (fun M2 => nm (wr M2 this 11 ((rd M2 this 11) + (1 : Int32))) (fun M5 => ck v1 6 (some ((rd M5 (this + 12 + 1 + 4 * v1.toNatClampNeg) 3), M5)))))
/-! X3_sendLetter -/
def f_X3_sendLetter_L19 (M : Mem) (this : Nat) : Option Mem := some M
def f_X3_sendLetter (M : Mem) (this : Nat) (v1 : Int32) (v2 : Int32) (v3 : Int32) : Option Mem := bd (f_X0_countFrom M (this + 1) v1) (fun x1 => if v3 ≤ (0 : Int32) then (f_X3_sendLetter_L19 M this) else (if x1 = (0 : Int32) then (f_X3_sendLetter_L19 M this) else (nz x1 (bd (f_X0_atPlaceFrom M (this + 1) v1 (jrem v3 x1)) (fun x6 => if x6 = (-1 : Int32) then (some M) else (ck x6 12 (nm (v2 + (rd M (this + 1 + 4) x6.toNatClampNeg)) (fun x10 => ck x6 12 (ck (rd M (this + 1 + 2) x6.toNatClampNeg) 6 (bd (f_X2_add M (this + 12 + 1 + 4 * (rd M (this + 1 + 2) x6.toNatClampNeg).toNatClampNeg) x10 (v3 - (1 : Int32)) x6) (fun M13 => ck x6 12 (ck x6 12 (nm (wr M13 (this + 1 + 6) x6.toNatClampNeg ((rd M13 (this + 1 + 6) x6.toNatClampNeg) + (1 : Int32))) (fun M18 => ck x6 12 (ck x6 12 (nm (wr M18 (this + 1 + 5) x6.toNatClampNeg (jmax (rd M18 (this + 1 + 5) x6.toNatClampNeg) x10)) (fun M21 => some M21)))))))))))))))))
/-! X3_workOnFirst -/
def f_X3_workOnFirst (M : Mem) (this : Nat) (v1 : Int32) : Option Mem := ck v1 6 (if (rd M (this + 12 + 1 + 4 * v1.toNatClampNeg) 3) = (0 : Int32) then (some M) else (bd (f_X2_firstTime M (this + 12 + 1 + 4 * v1.toNatClampNeg)) (fun x3 => bd (f_X2_firstValue M (this + 12 + 1 + 4 * v1.toNatClampNeg)) (fun x5 => bd (f_X2_removeFirst M (this + 12 + 1 + 4 * v1.toNatClampNeg)) (fun M7 => ck v1 6 (ck v1 6 (nm (wr M7 (this + 9) v1.toNatClampNeg ((rd M7 (this + 9) v1.toNatClampNeg) + (1 : Int32))) (fun M12 => ck v1 6 (nz (1000003 : Int32) (ck v1 6 (nm (wr M12 (this + 10) v1.toNatClampNeg (jrem ((((31 : Int32) * (rd M12 (this + 10) v1.toNatClampNeg)) + x5) + x3) (1000003 : Int32))) (fun M16 => ck v1 6 (nm (wr M16 (this + 11) v1.toNatClampNeg x3) (fun M18 => nm (wr M18 this 7 ((rd M18 this 7) + (1 : Int32))) (fun M19 => bd (f_X3_sendLetter M19 this v1 x3 x5) (fun M20 => some M20))))))))))))))))
/-! X3_emptyMayGo -/
def f_X3_emptyMayGo_L30 (M : Mem) (this : Nat) (s0 : Int32) : Option Int32 := zk s0 (some s0)
def f_X3_emptyMayGo_L25 (M : Mem) (this : Nat) : Option Int32 := f_X3_emptyMayGo_L30 M this (1 : Int32)
def f_X3_emptyMayGo (M : Mem) (this : Nat) (v1 : Int32) : Option Int32 := if (rd M this 6) = (2 : Int32) then (ck v1 12 (bd (f_X3_channelWaitedFor M this (rd M (this + 1 + 2) v1.toNatClampNeg)) (fun x3 => if x3 = v1 then (f_X3_emptyMayGo_L25 M this) else (f_X3_emptyMayGo_L30 M this (0 : Int32))))) else (f_X3_emptyMayGo_L25 M this)
/-! X3_sendEmptyLetters -/
def f_X3_sendEmptyLetters_L118 (k20 : Mem → Int32 → Option Mem) (M : Mem) (this : Nat) (v1 : Int32) (v2 : Int32) (v3 : Int32) : Option Mem := nm (v3 + (1 : Int32)) (fun x1 => k20 M x1)
def f_X3_sendEmptyLetters_L20 (this : Nat) (v1 : Int32) (v2 : Int32) : Nat → Mem → Int32 → Option Mem
  | 0, _, _ => none
  | n + 1, M, v3 => if (rd M (this + 1) 7) ≤ v3 then (some M) else (ck v3 12 (nm (jmin (v2 + (rd M (this + 1 + 3) v3.toNatClampNeg)) (99999999 : Int32)) (fun x3 => ck v3 12 (if (rd M (this + 1 + 1) v3.toNatClampNeg) = v1 then (ck v3 12 (if x3 ≤ (rd M (this + 1 + 5) v3.toNatClampNeg) then (f_X3_sendEmptyLetters_L118 (fun Mq q3 => f_X3_sendEmptyLetters_L20 this v1 v2 n Mq q3) M this v1 v2 v3) else (bd (f_X3_emptyMayGo M this v3) (fun x8 => if x8 = (0 : Int32) then (f_X3_sendEmptyLetters_L118 (fun Mq q3 => f_X3_sendEmptyLetters_L20 this v1 v2 n Mq q3) M this v1 v2 v3) else (ck v3 12 (nm (wr M (this + 1 + 5) v3.toNatClampNeg x3) (fun M12 => ck v3 12 (ck v3 12 (nm (wr M12 (this + 1 + 7) v3.toNatClampNeg ((rd M12 (this + 1 + 7) v3.toNatClampNeg) + (1 : Int32))) (fun M15 => nm (wr M15 this 8 ((rd M15 this 8) + (1 : Int32))) (fun M16 => f_X3_sendEmptyLetters_L118 (fun Mq q3 => f_X3_sendEmptyLetters_L20 this v1 v2 n Mq q3) M16 this v1 v2 v3))))))))))) else (f_X3_sendEmptyLetters_L118 (fun Mq q3 => f_X3_sendEmptyLetters_L20 this v1 v2 n Mq q3) M this v1 v2 v3)))))
def f_X3_sendEmptyLetters (M : Mem) (this : Nat) (v1 : Int32) : Option Mem := bd (f_X3_safeOf M this v1) (fun x1 => ck v1 6 (bd (f_X2_firstTime M (this + 12 + 1 + 4 * v1.toNatClampNeg)) (fun x4 => nm (jmin x1 x4) (fun x6 => f_X3_sendEmptyLetters_L20 this v1 x6 1000 M (0 : Int32)))))
/-! X4_isOutside -/
def f_X4_isOutside_L15 (s0 : Int32) : Option Int32 := zk s0 (some s0)
def f_X4_isOutside_L10 : Option Int32 := f_X4_isOutside_L15 (1 : Int32)
def f_X4_isOutside (v0 : Int32) (v1 : Int32) (v2 : Int32) : Option Int32 := if v0 < v1 then (f_X4_isOutside_L10) else (if v0 ≤ v2 then (f_X4_isOutside_L15 (0 : Int32)) else (f_X4_isOutside_L10))
/-! X4_parts -/
def f_X4_parts_L38 (this : Nat) (v2 : Int32) : Nat → Mem → Int32 → Option (Int32 × Mem)
  | 0, _, _ => none
  | n + 1, M, v3 => if (2 : Int32) ≤ v3 then (some (v2, M)) else (ck v3 2 (nm (wr M (this + 150) v3.toNatClampNeg (0 : Int32)) (fun M3 => nm (v3 + (1 : Int32)) (fun x4 => f_X4_parts_L38 this v2 n M3 x4))))
def f_X4_parts (M : Mem) (this : Nat) (v1 : Int32) : Option (Int32 × Mem) := bd (f_X4_isOutside v1 (1 : Int32) (6 : Int32)) (fun x1 => if x1 = (0 : Int32) then (nm (rd M (this + 1) 7) (fun x4 => bd (f_X3_beginAnew M (this + 1) v1) (fun M5 => bd (f_X1_clear M5 (this + 151)) (fun M8 => f_X4_parts_L38 this x4 1000 M8 (0 : Int32))))) else (some ((-1000000002 : Int32), M)))
/-! X4_isNoPart -/
def f_X4_isNoPart_L20 (M : Mem) (this : Nat) (s0 : Int32) : Option Int32 := zk s0 (some s0)
def f_X4_isNoPart_L15 (M : Mem) (this : Nat) : Option Int32 := f_X4_isNoPart_L20 M this (1 : Int32)
def f_X4_isNoPart (M : Mem) (this : Nat) (v1 : Int32) : Option Int32 := if v1 < (0 : Int32) then (f_X4_isNoPart_L15 M this) else (if v1 < (rd M (this + 1) 5) then (f_X4_isNoPart_L20 M this (0 : Int32)) else (f_X4_isNoPart_L15 M this))
/-! X4_areNotTwoParts -/
def f_X4_areNotTwoParts_L26 (M : Mem) (this : Nat) (s0 : Int32) : Option Int32 := zk s0 (some s0)
def f_X4_areNotTwoParts_L21 (M : Mem) (this : Nat) : Option Int32 := f_X4_areNotTwoParts_L26 M this (1 : Int32)
def f_X4_areNotTwoParts (M : Mem) (this : Nat) (v1 : Int32) (v2 : Int32) : Option Int32 := bd (f_X4_isNoPart M this v1) (fun x1 => if x1 = (0 : Int32) then (bd (f_X4_isNoPart M this v2) (fun x4 => if x4 = (0 : Int32) then (if v1 = v2 then (f_X4_areNotTwoParts_L21 M this) else (f_X4_areNotTwoParts_L26 M this (0 : Int32))) else (f_X4_areNotTwoParts_L21 M this))) else (f_X4_areNotTwoParts_L21 M this))
/-! X4_channel -/
def f_X4_channel_L39 (M : Mem) (this : Nat) : Option (Int32 × Mem) := some ((-1000000002 : Int32), M)
def f_X4_channel_L68 (M : Mem) (this : Nat) : Option (Int32 × Mem) := some ((-1000000003 : Int32), M)
def f_X4_channel (M : Mem) (this : Nat) (v1 : Int32) (v2 : Int32) (v3 : Int32) (v4 : Int32) : Option (Int32 × Mem) := bd (f_X4_areNotTwoParts M this v1 v2) (fun x1 => if x1 = (0 : Int32) then (bd (f_X4_isOutside v3 (0 : Int32) (99 : Int32)) (fun x4 => if x4 = (0 : Int32) then (bd (f_X4_isOutside v4 (1 : Int32) (99 : Int32)) (fun x7 => if x7 = (0 : Int32) then (if v3 ≤ v4 then (bd (f_X0_find M (this + 1 + 1) v1 v2) (fun x11 => if x11 = (-1 : Int32) then (bd (f_X3_roundsAndLetGo M (this + 1)) (fun x14 => if x14 ≤ (0 : Int32) then (if (rd M (this + 1 + 1) 7) < (12 : Int32) then (bd2 (f_X0_add M (this + 1 + 1) v1 v2 v3 v4) (fun x19 M18 => some (x19, M18))) else (some ((-1000000004 : Int32), M))) else (f_X4_channel_L68 M this))) else (f_X4_channel_L68 M this))) else (f_X4_channel_L39 M this)) else (f_X4_channel_L39 M this))) else (f_X4_channel_L39 M this))) else (some ((-1000000001 : Int32), M)))
/-! X4_refusalOfEvent -/
def f_X4_refusalOfEvent_L32 (M : Mem) (this : Nat) : Option Int32 := some (-1000000002 : Int32)
def f_X4_refusalOfEvent_L62 (M : Mem) (this : Nat) : Option Int32 := some (-1000000003 : Int32)
def f_X4_refusalOfEvent_L83 (M : Mem) (this : Nat) (s0 : Int32) : Option Int32 := some s0
def f_X4_refusalOfEvent (M : Mem) (this : Nat) (v1 : Int32) (v2 : Int32) (v3 : Int32) : Option Int32 := bd (f_X4_isNoPart M this v1) (fun x1 => if x1 = (0 : Int32) then (bd (f_X4_isOutside v2 (0 : Int32) (9999 : Int32)) (fun x4 => if x4 = (0 : Int32) then (bd (f_X4_isOutside v3 (0 : Int32) (99 : Int32)) (fun x7 => if x7 = (0 : Int32) then (bd (f_X3_hasWorkedAtOrBehind M (this + 1) v1 v2) (fun x10 => if x10 = (0 : Int32) then (bd (f_X0_promiseMoreThan M (this + 1 + 1) v1 v2) (fun x13 => if x13 = (0 : Int32) then (if (rd M (this + 1) 11) < (30 : Int32) then (f_X4_refusalOfEvent_L83 M this (0 : Int32)) else (f_X4_refusalOfEvent_L83 M this (-1000000004 : Int32))) else (f_X4_refusalOfEvent_L62 M this))) else (f_X4_refusalOfEvent_L62 M this))) else (f_X4_refusalOfEvent_L32 M this))) else (f_X4_refusalOfEvent_L32 M this))) else (some (-1000000001 : Int32)))
/-! X4_event -/
def f_X4_event (M : Mem) (this : Nat) (v1 : Int32) (v2 : Int32) (v3 : Int32) : Option (Int32 × Mem) := bd (f_X4_refusalOfEvent M this v1 v2 v3) (fun x1 => if x1 = (0 : Int32) then (bd2 (f_X3_tellByHand M (this + 1) v1 v2 v3) (fun x5 M4 => some (x5, M4))) else (some (x1, M)))
/-! X4_form -/
def f_X4_form (M : Mem) (this : Nat) (v1 : Int32) : Option (Int32 × Mem) := bd (f_X4_isOutside v1 (0 : Int32) (2 : Int32)) (fun x1 => if x1 = (0 : Int32) then (nm (rd M (this + 1) 6) (fun x4 => nm (wr M (this + 1) 6 v1) (fun M5 => some (x4, M5)))) else (some ((-1000000002 : Int32), M)))
/-! X4_nextLot -/
def f_X4_nextLot (l0 : Int64) : Option Int64 := nzl (2147483647 : Int64) (some (jreml (l0 * (16807 : Int64)) (2147483647 : Int64)))
/-! X4_drift -/
def f_X4_drift_L20 (M : Mem) (this : Nat) : Option (Int32 × Mem) := some ((-1000000002 : Int32), M)
def f_X4_drift_L145 (k49 : Mem → Int64 → Int32 → Int32 → Option (Int32 × Mem)) (M : Mem) (this : Nat) (v1 : Int32) (v3 : Int32) (l4 : Int64) (v6 : Int32) (v7 : Int32) : Option (Int32 × Mem) := nm (v7 + (1 : Int32)) (fun x1 => k49 M l4 v6 x1)
def f_X4_drift_L49 (this : Nat) (v1 : Int32) (v3 : Int32) : Nat → Mem → Int64 → Int32 → Int32 → Option (Int32 × Mem)
  | 0, _, _, _, _ => none
  | n + 1, M, l4, v6, v7 => if v1 ≤ v7 then (some (v6, M)) else (bd (f_X4_nextLot l4) (fun x2 => nzl (v3.toInt64) (nm ((jreml x2 (v3.toInt64)).toInt32) (fun x5 => bd (f_X4_nextLot x2) (fun x6 => ck x5 6 (nzl (50 : Int64) (nm (((rd M (this + 1 + 11) x5.toNatClampNeg) + (1 : Int32)) + ((jreml x6 (50 : Int64)).toInt32)) (fun x10 => bd (f_X4_nextLot x6) (fun x11 => nzl (20 : Int64) (nm ((jreml x11 (20 : Int64)).toInt32) (fun x14 => bd (f_X4_refusalOfEvent M this x5 x10 x14) (fun x15 => if x15 = (0 : Int32) then (bd2 (f_X3_tellByHand M (this + 1) x5 x10 x14) (fun x19 M18 => nm (v6 + (1 : Int32)) (fun x21 => f_X4_drift_L145 (fun Mq q4 q6 q7 => f_X4_drift_L49 this v1 v3 n Mq q4 q6 q7) M18 this v1 v3 x11 x21 v7))) else (f_X4_drift_L145 (fun Mq q4 q6 q7 => f_X4_drift_L49 this v1 v3 n Mq q4 q6 q7) M this v1 v3 x11 v6 v7)))))))))))))
def f_X4_drift (M : Mem) (this : Nat) (v1 : Int32) (v2 : Int32) : Option (Int32 × Mem) := bd (f_X4_isOutside v1 (1 : Int32) (20 : Int32)) (fun x1 => if x1 = (0 : Int32) then (bd (f_X4_isOutside v2 (1 : Int32) (999999 : Int32)) (fun x4 => if x4 = (0 : Int32) then (nm (rd M (this + 1) 5) (fun x7 => if (1 : Int32) ≤ x7 then (nm (v2.toInt64) (fun x9 => f_X4_drift_L49 this v1 x7 1000 M x9 (0 : Int32) (0 : Int32))) else (some ((-1000000003 : Int32), M)))) else (f_X4_drift_L20 M this))) else (f_X4_drift_L20 M this))
/-! X4_nothingIsRun -/
def f_X4_nothingIsRun_L48 (M : Mem) (this : Nat) (s0 : Int32) : Option Int32 := zk s0 (some s0)
def f_X4_nothingIsRun_L47 (M : Mem) (this : Nat) : Option Int32 := f_X4_nothingIsRun_L48 M this (0 : Int32)
def f_X4_nothingIsRun (M : Mem) (this : Nat) : Option Int32 := if (rd M (this + 1) 5) = (0 : Int32) then (some (1 : Int32)) else (if (rd M (this + 1) 6) = (1 : Int32) then (f_X4_nothingIsRun_L47 M this) else (bd (f_X0_hasRingWithoutPromise M (this + 1 + 1) (rd M (this + 1) 5)) (fun x3 => if x3 = (0 : Int32) then (f_X4_nothingIsRun_L47 M this) else (f_X4_nothingIsRun_L48 M this (1 : Int32)))))
/-! X4_workAndWriteDown -/
def f_X4_workAndWriteDown (M : Mem) (this : Nat) (v1 : Int32) : Option Mem := ck v1 6 (bd (f_X2_firstTime M (this + 1 + 12 + 1 + 4 * v1.toNatClampNeg)) (fun x2 => bd (f_X2_firstValue M (this + 1 + 12 + 1 + 4 * v1.toNatClampNeg)) (fun x4 => bd (f_X3_roundsAndLetGo M (this + 1)) (fun x6 => bd (f_X1_add M (this + 151) v1 x2 x4 x6) (fun M8 => bd (f_X3_workOnFirst M8 (this + 1) v1) (fun M11 => some M11))))))
/-! X4_isStillAfterRound -/
def f_X4_isStillAfterRound_L45 (k18 : Mem → Int32 → Option (Int32 × Mem)) (M : Mem) (this : Nat) (v1 : Int32) (v2 : Int32) (v3 : Int32) : Option (Int32 × Mem) := nm (v3 + (1 : Int32)) (fun x1 => k18 M x1)
def f_X4_isStillAfterRound_L139 (M : Mem) (this : Nat) (s0 : Int32) : Option (Int32 × Mem) := zk s0 (some (s0, M))
def f_X4_isStillAfterRound_L138 (M : Mem) (this : Nat) : Option (Int32 × Mem) := f_X4_isStillAfterRound_L139 M this (0 : Int32)
def f_X4_isStillAfterRound_L89 (M : Mem) (this : Nat) (v1 : Int32) (v2 : Int32) : Option (Int32 × Mem) := nm (wr M (this + 1) 9 ((rd M (this + 1) 9) + (1 : Int32))) (fun M1 => if (rd M1 (this + 1) 7) = v1 then (if (rd M1 (this + 1) 8) = v2 then (bd (f_X3_eventsThatWait M1 (this + 1)) (fun x4 => if x4 ≤ (0 : Int32) then (f_X4_isStillAfterRound_L138 M1 this) else (f_X4_isStillAfterRound_L139 M1 this (1 : Int32)))) else (f_X4_isStillAfterRound_L138 M1 this)) else (f_X4_isStillAfterRound_L138 M1 this))
def f_X4_isStillAfterRound_L64 (this : Nat) (v1 : Int32) (v2 : Int32) : Nat → Mem → Int32 → Option (Int32 × Mem)
  | 0, _, _ => none
  | n + 1, M, v3 => if (rd M (this + 1) 5) ≤ v3 then (f_X4_isStillAfterRound_L89 M this v1 v2) else (bd (f_X3_sendEmptyLetters M (this + 1) v3) (fun M2 => nm (v3 + (1 : Int32)) (fun x5 => f_X4_isStillAfterRound_L64 this v1 v2 n M2 x5)))
def f_X4_isStillAfterRound_L51 (M : Mem) (this : Nat) (v1 : Int32) (v2 : Int32) : Option (Int32 × Mem) := if (rd M (this + 1) 6) = (1 : Int32) then (f_X4_isStillAfterRound_L89 M this v1 v2) else (f_X4_isStillAfterRound_L64 this v1 v2 1000 M (0 : Int32))
def f_X4_isStillAfterRound_L18 (this : Nat) (v1 : Int32) (v2 : Int32) : Nat → Mem → Int32 → Option (Int32 × Mem)
  | 0, _, _ => none
  | n + 1, M, v3 => if (rd M (this + 1) 5) ≤ v3 then (f_X4_isStillAfterRound_L51 M this v1 v2) else (bd (f_X3_mayWork M (this + 1) v3) (fun x2 => if x2 = (0 : Int32) then (f_X4_isStillAfterRound_L45 (fun Mq q3 => f_X4_isStillAfterRound_L18 this v1 v2 n Mq q3) M this v1 v2 v3) else (bd (f_X4_workAndWriteDown M this v3) (fun M5 => f_X4_isStillAfterRound_L45 (fun Mq q3 => f_X4_isStillAfterRound_L18 this v1 v2 n Mq q3) M5 this v1 v2 v3))))
def f_X4_isStillAfterRound (M : Mem) (this : Nat) : Option (Int32 × Mem) := nm (rd M (this + 1) 7) (fun x1 => nm (rd M (this + 1) 8) (fun x2 => f_X4_isStillAfterRound_L18 this x1 x2 1000 M (0 : Int32)))
/-! X4_run -/
def f_X4_run_L67 (M : Mem) (this : Nat) (v2 : Int32) : Option (Int32 × Mem) := some (((rd M (this + 1) 7) - v2), M)
def f_X4_run_L36 (this : Nat) (v1 : Int32) (v2 : Int32) : Nat → Mem → Int32 → Int32 → Option (Int32 × Mem)
  | 0, _, _, _ => none
  | n + 1, M, v3, v4 => if v1 ≤ v4 then (f_X4_run_L67 M this v2) else (if v3 = (0 : Int32) then (bd (f_X3_eventsThatWait M (this + 1)) (fun x3 => if x3 ≤ (0 : Int32) then (f_X4_run_L67 M this v2) else (bd2 (f_X4_isStillAfterRound M this) (fun x7 M6 => nm (v4 + (1 : Int32)) (fun x9 => f_X4_run_L36 this v1 v2 n M6 x7 x9))))) else (f_X4_run_L67 M this v2))
def f_X4_run (M : Mem) (this : Nat) (v1 : Int32) : Option (Int32 × Mem) := bd (f_X4_isOutside v1 (1 : Int32) (40 : Int32)) (fun x1 => if x1 = (0 : Int32) then (bd (f_X4_nothingIsRun M this) (fun x4 => if x4 = (0 : Int32) then (nm (rd M (this + 1) 7) (fun x7 => f_X4_run_L36 this v1 x7 1000 M (0 : Int32) (0 : Int32))) else (some ((-1000000003 : Int32), M)))) else (some ((-1000000002 : Int32), M)))
/-! X4_letEarliestGo -/
def f_X4_letEarliestGo_L56 (k10 : Mem → Int32 → Option (Int32 × Mem)) (M : Mem) (this : Nat) (v1 : Int32) (v2 : Int32) : Option (Int32 × Mem) := nm (v2 + (1 : Int32)) (fun x1 => k10 M x1)
def f_X4_letEarliestGo_L23 (k10 : Mem → Int32 → Option (Int32 × Mem)) (this : Nat) (v1 : Int32) (v2 : Int32) : Nat → Mem → Int32 → Option (Int32 × Mem)
  | 0, _, _ => none
  | n + 1, M, v3 => if (30 : Int32) ≤ v3 then (f_X4_letEarliestGo_L56 k10 M this v1 v2) else (ck v2 6 (bd (f_X2_firstTime M (this + 1 + 12 + 1 + 4 * v2.toNatClampNeg)) (fun x3 => if x3 = v1 then (bd (f_X4_workAndWriteDown M this v2) (fun M6 => nm (v3 + (1 : Int32)) (fun x9 => f_X4_letEarliestGo_L23 k10 this v1 v2 n M6 x9))) else (f_X4_letEarliestGo_L56 k10 M this v1 v2))))
def f_X4_letEarliestGo_L10 (this : Nat) (v1 : Int32) : Nat → Mem → Int32 → Option (Int32 × Mem)
  | 0, _, _ => none
  | n + 1, M, v2 => if (rd M (this + 1) 5) ≤ v2 then (bd (f_X0_raiseClocks M (this + 1 + 1) (v1 + (1 : Int32))) (fun M2 => nm (wr M2 (this + 1) 10 ((rd M2 (this + 1) 10) + (1 : Int32))) (fun M5 => some (v1, M5)))) else (f_X4_letEarliestGo_L23 (fun Mq q2 => f_X4_letEarliestGo_L10 this v1 n Mq q2) this v1 v2 1000 M (0 : Int32))
def f_X4_letEarliestGo (M : Mem) (this : Nat) : Option (Int32 × Mem) := bd (f_X3_leastTime M (this + 1)) (fun x1 => f_X4_letEarliestGo_L10 this x1 1000 M (0 : Int32))
/-! X4_letGo -/
def f_X4_letGo_L20 (M : Mem) (this : Nat) : Option (Int32 × Mem) := some ((-1000000003 : Int32), M)
def f_X4_letGo (M : Mem) (this : Nat) : Option (Int32 × Mem) := bd (f_X3_eventsThatWait M (this + 1)) (fun x1 => if x1 = (0 : Int32) then (f_X4_letGo_L20 M this) else (bd (f_X3_partsThatMay M (this + 1)) (fun x4 => if x4 = (0 : Int32) then (bd2 (f_X4_letEarliestGo M this) (fun x8 M7 => some (x8, M7))) else (f_X4_letGo_L20 M this))))
/-! X4_finish -/
def f_X4_finish_L58 (k22 : Mem → Int32 → Int32 → Option (Int32 × Mem)) (M : Mem) (this : Nat) (v1 : Int32) (v2 : Int32) (v3 : Int32) : Option (Int32 × Mem) := nm (v3 + (1 : Int32)) (fun x1 => k22 M v2 x1)
def f_X4_finish_L64 (M : Mem) (this : Nat) (v1 : Int32) : Option (Int32 × Mem) := some (((rd M (this + 1) 7) - v1), M)
def f_X4_finish_L22 (this : Nat) (v1 : Int32) : Nat → Mem → Int32 → Int32 → Option (Int32 × Mem)
  | 0, _, _, _ => none
  | n + 1, M, v2, v3 => if (400 : Int32) ≤ v3 then (f_X4_finish_L64 M this v1) else (bd (f_X3_eventsThatWait M (this + 1)) (fun x2 => if x2 ≤ (0 : Int32) then (f_X4_finish_L64 M this v1) else (if v2 = (0 : Int32) then (bd2 (f_X4_isStillAfterRound M this) (fun x7 M6 => f_X4_finish_L58 (fun Mq q2 q3 => f_X4_finish_L22 this v1 n Mq q2 q3) M6 this v1 x7 v3)) else (bd2 (f_X4_letEarliestGo M this) (fun x10 M9 => f_X4_finish_L58 (fun Mq q2 q3 => f_X4_finish_L22 this v1 n Mq q2 q3) M9 this v1 (0 : Int32) v3)))))
def f_X4_finish (M : Mem) (this : Nat) : Option (Int32 × Mem) := bd (f_X4_nothingIsRun M this) (fun x1 => if x1 = (0 : Int32) then (nm (rd M (this + 1) 7) (fun x4 => f_X4_finish_L22 this x4 1000 M (0 : Int32) (0 : Int32))) else (some ((-1000000003 : Int32), M)))
/-! X4_told -/
def f_X4_told_L184 (M : Mem) (this : Nat) (s0 : Int32) : Option Int32 := some s0
def f_X4_told (M : Mem) (this : Nat) (v1 : Int32) : Option Int32 := if v1 = (0 : Int32) then (some (rd M (this + 1) 5)) else (if v1 = (1 : Int32) then (some (rd M (this + 1 + 1) 7)) else (if v1 = (2 : Int32) then (some (rd M (this + 1) 6)) else (if v1 = (3 : Int32) then (bd (f_X3_eventsThatWait M (this + 1)) (fun x5 => some x5)) else (if v1 = (4 : Int32) then (some (rd M (this + 1) 7)) else (if v1 = (5 : Int32) then (some (rd M (this + 1) 8)) else (if v1 = (6 : Int32) then (some (rd M (this + 1) 9)) else (if v1 = (7 : Int32) then (some (rd M (this + 1) 10)) else (if v1 = (8 : Int32) then (bd (f_X3_partsThatMay M (this + 1)) (fun x12 => some x12)) else (if v1 = (9 : Int32) then (bd (f_X3_leastTime M (this + 1)) (fun x15 => some x15)) else (if v1 = (10 : Int32) then (some (rd M (this + 151) 4)) else (if v1 = (11 : Int32) then (bd (f_X0_hasRingWithoutPromise M (this + 1 + 1) (rd M (this + 1) 5)) (fun x19 => if x19 = (0 : Int32) then (f_X4_told_L184 M this (0 : Int32)) else (f_X4_told_L184 M this (1 : Int32)))) else (if v1 = (12 : Int32) then (some (rd M (this + 1) 11)) else (some (-1000000002 : Int32))))))))))))))
/-! X4_part -/
def f_X4_part_L166 (M : Mem) (this : Nat) (s0 : Int32) : Option Int32 := some s0
def f_X4_part (M : Mem) (this : Nat) (v1 : Int32) (v2 : Int32) : Option Int32 := bd (f_X4_isNoPart M this v1) (fun x1 => if x1 = (0 : Int32) then (if v2 = (0 : Int32) then (ck v1 6 (some (rd M (this + 1 + 9) v1.toNatClampNeg))) else (if v2 = (1 : Int32) then (ck v1 6 (some (rd M (this + 1 + 10) v1.toNatClampNeg))) else (if v2 = (2 : Int32) then (ck v1 6 (some (rd M (this + 1 + 11) v1.toNatClampNeg))) else (if v2 = (3 : Int32) then (bd (f_X3_safeOf M (this + 1) v1) (fun x11 => some x11)) else (if v2 = (4 : Int32) then (ck v1 6 (some (rd M (this + 1 + 12 + 1 + 4 * v1.toNatClampNeg) 3))) else (if v2 = (5 : Int32) then (ck v1 6 (bd (f_X2_firstTime M (this + 1 + 12 + 1 + 4 * v1.toNatClampNeg)) (fun x17 => some x17))) else (if v2 = (6 : Int32) then (ck v1 6 (bd (f_X2_firstValue M (this + 1 + 12 + 1 + 4 * v1.toNatClampNeg)) (fun x21 => some x21))) else (if v2 = (7 : Int32) then (bd (f_X3_mayWork M (this + 1) v1) (fun x24 => if x24 = (0 : Int32) then (f_X4_part_L166 M this (0 : Int32)) else (f_X4_part_L166 M this (1 : Int32)))) else (if v2 = (8 : Int32) then (bd (f_X3_channelWaitedFor M (this + 1) v1) (fun x28 => some x28)) else (if v2 = (9 : Int32) then (bd (f_X0_countFrom M (this + 1 + 1) v1) (fun x31 => some x31)) else (if v2 = (10 : Int32) then (bd (f_X0_countTo M (this + 1 + 1) v1) (fun x34 => some x34)) else (some (-1000000002 : Int32))))))))))))) else (some (-1000000001 : Int32)))
/-! X4_channelOf -/
def f_X4_channelOf_L20 (M : Mem) (this : Nat) : Option Int32 := some (-1000000001 : Int32)
def f_X4_channelOf (M : Mem) (this : Nat) (v1 : Int32) (v2 : Int32) : Option Int32 := if v1 < (0 : Int32) then (f_X4_channelOf_L20 M this) else (if v1 < (rd M (this + 1 + 1) 7) then (if v2 = (0 : Int32) then (ck v1 12 (some (rd M (this + 1 + 1 + 1) v1.toNatClampNeg))) else (if v2 = (1 : Int32) then (ck v1 12 (some (rd M (this + 1 + 1 + 2) v1.toNatClampNeg))) else (if v2 = (2 : Int32) then (ck v1 12 (some (rd M (this + 1 + 1 + 3) v1.toNatClampNeg))) else (if v2 = (3 : Int32) then (ck v1 12 (some (rd M (this + 1 + 1 + 4) v1.toNatClampNeg))) else (if v2 = (4 : Int32) then (ck v1 12 (some (rd M (this + 1 + 1 + 5) v1.toNatClampNeg))) else (if v2 = (5 : Int32) then (ck v1 12 (some (rd M (this + 1 + 1 + 6) v1.toNatClampNeg))) else (if v2 = (6 : Int32) then (ck v1 12 (some (rd M (this + 1 + 1 + 7) v1.toNatClampNeg))) else (some (-1000000002 : Int32))))))))) else (f_X4_channelOf_L20 M this))
/-! X4_between -/
def f_X4_between (M : Mem) (this : Nat) (v1 : Int32) (v2 : Int32) : Option Int32 := bd (f_X4_areNotTwoParts M this v1 v2) (fun x1 => if x1 = (0 : Int32) then (bd (f_X0_find M (this + 1 + 1) v1 v2) (fun x4 => some x4)) else (some (-1000000001 : Int32)))
/-! X4_record -/
def f_X4_record_L13 (M : Mem) (this : Nat) : Option Int32 := some (-1000000002 : Int32)
def f_X4_record (M : Mem) (this : Nat) (v1 : Int32) (v2 : Int32) : Option Int32 := if v1 < (0 : Int32) then (f_X4_record_L13 M this) else (bd (f_X4_isOutside v2 (0 : Int32) (3 : Int32)) (fun x2 => if x2 = (0 : Int32) then (if v1 < (rd M (this + 151) 4) then (if v2 = (0 : Int32) then (ck v1 200 (some (rd M (this + 151 + 1) v1.toNatClampNeg))) else (if v2 = (1 : Int32) then (ck v1 200 (some (rd M (this + 151 + 2) v1.toNatClampNeg))) else (if v2 = (2 : Int32) then (ck v1 200 (some (rd M (this + 151 + 3) v1.toNatClampNeg))) else (ck v1 200 (some (rd M (this + 151 + 4) v1.toNatClampNeg)))))) else (some (-1 : Int32))) else (f_X4_record_L13 M this)))
/-! X4_leastPromisesRound -/
def f_X4_leastPromisesRound_L90 (k32 : Mem → Int32 → Option (Int32 × Mem)) (k46 : Mem → Int32 → Option (Int32 × Mem)) (M : Mem) (this : Nat) (v1 : Int32) (v3 : Int32) (v4 : Int32) (v6 : Int32) (s0 : Int32) : Option (Int32 × Mem) := ck v6 6 (ck v4 12 (ck v6 6 (nm (wr M (this + 156) v6.toNatClampNeg (jmin (rd M (this + 156) v6.toNatClampNeg) (s0 + (rd M (this + 1 + 1 + 3) v4.toNatClampNeg)))) (fun M4 => nm (v4 + (1 : Int32)) (fun x5 => k46 M4 x5)))))
def f_X4_leastPromisesRound_L125 (k32 : Mem → Int32 → Option (Int32 × Mem)) (M : Mem) (this : Nat) (v1 : Int32) (v3 : Int32) : Option (Int32 × Mem) := nm (v3 + (1 : Int32)) (fun x1 => k32 M x1)
def f_X4_leastPromisesRound_L46 (k32 : Mem → Int32 → Option (Int32 × Mem)) (this : Nat) (v1 : Int32) (v3 : Int32) : Nat → Mem → Int32 → Option (Int32 × Mem)
  | 0, _, _ => none
  | n + 1, M, v4 => if (rd M (this + 1 + 1) 7) ≤ v4 then (f_X4_leastPromisesRound_L125 k32 M this v1 v3) else (ck v4 12 (nm (rd M (this + 1 + 1 + 1) v4.toNatClampNeg) (fun x3 => ck v4 12 (nm (rd M (this + 1 + 1 + 2) v4.toNatClampNeg) (fun x5 => if x3 = v1 then (f_X4_leastPromisesRound_L90 k32 (fun Mq q4 => f_X4_leastPromisesRound_L46 k32 this v1 v3 n Mq q4) M this v1 v3 v4 x5 (0 : Int32)) else (ck x3 6 (f_X4_leastPromisesRound_L90 k32 (fun Mq q4 => f_X4_leastPromisesRound_L46 k32 this v1 v3 n Mq q4) M this v1 v3 v4 x5 (rd M (this + 156) x3.toNatClampNeg))))))))
def f_X4_leastPromisesRound_L32 (this : Nat) (v1 : Int32) : Nat → Mem → Int32 → Option (Int32 × Mem)
  | 0, _, _ => none
  | n + 1, M, v3 => if (rd M (this + 1) 5) ≤ v3 then (ck v1 6 (some ((rd M (this + 156) v1.toNatClampNeg), M))) else (f_X4_leastPromisesRound_L46 (fun Mq q3 => f_X4_leastPromisesRound_L32 this v1 n Mq q3) this v1 v3 1000 M (0 : Int32))
def f_X4_leastPromisesRound_L22 (M : Mem) (this : Nat) (v1 : Int32) : Option (Int32 × Mem) := f_X4_leastPromisesRound_L32 this v1 1000 M (0 : Int32)
def f_X4_leastPromisesRound_L2 (this : Nat) (v1 : Int32) : Nat → Mem → Int32 → Option (Int32 × Mem)
  | 0, _, _ => none
  | n + 1, M, v2 => if (6 : Int32) ≤ v2 then (f_X4_leastPromisesRound_L22 M this v1) else (ck v2 6 (nm (wr M (this + 156) v2.toNatClampNeg (99999999 : Int32)) (fun M3 => nm (v2 + (1 : Int32)) (fun x4 => f_X4_leastPromisesRound_L2 this v1 n M3 x4))))
def f_X4_leastPromisesRound (M : Mem) (this : Nat) (v1 : Int32) : Option (Int32 × Mem) := f_X4_leastPromisesRound_L2 this v1 1000 M (0 : Int32)
/-! X4_ring -/
def f_X4_ring_L28 (M : Mem) (this : Nat) (s0 : Int32) : Option (Int32 × Mem) := some (s0, M)
def f_X4_ring (M : Mem) (this : Nat) (v1 : Int32) : Option (Int32 × Mem) := bd (f_X4_isNoPart M this v1) (fun x1 => if x1 = (0 : Int32) then (bd2 (f_X4_leastPromisesRound M this v1) (fun x5 M4 => if x5 = (99999999 : Int32) then (f_X4_ring_L28 M4 this (-1 : Int32)) else (f_X4_ring_L28 M4 this x5))) else (some ((-1000000001 : Int32), M)))
/-! X4_waits -/
def f_X4_waits_L18 (M : Mem) (this : Nat) : Nat → Int32 → Int32 → Int32 → Option Int32
  | 0, _, _, _ => none
  | n + 1, v2, v3, v4 => if (6 : Int32) ≤ v4 then (some v2) else (bd (f_X3_channelWaitedFor M (this + 1) v3) (fun x2 => if x2 = (-1 : Int32) then (some v2) else (ck x2 12 (nm (rd M (this + 1 + 1 + 1) x2.toNatClampNeg) (fun x6 => nm (v2 ||| ((1 : Int32) <<< (x6 &&& 31))) (fun x7 => nm (v4 + (1 : Int32)) (fun x8 => f_X4_waits_L18 M this n x7 x6 x8)))))))
def f_X4_waits (M : Mem) (this : Nat) (v1 : Int32) : Option Int32 := bd (f_X4_isNoPart M this v1) (fun x1 => if x1 = (0 : Int32) then (f_X4_waits_L18 M this 1000 (0 : Int32) v1 (0 : Int32)) else (some (-1000000001 : Int32)))
/-! X4_inOrder -/
def f_X4_inOrder_L98 (M : Mem) (this : Nat) (s0 : Int32) : Option (Int32 × Mem) := some (s0, M)
def f_X4_inOrder_L73 (M : Mem) (this : Nat) (v1 : Int32) (v2 : Int32) : Option (Int32 × Mem) := if v2 = (0 : Int32) then (ck v1 6 (f_X4_inOrder_L98 M this (rd M (this + 38 + 9) v1.toNatClampNeg))) else (ck v1 6 (f_X4_inOrder_L98 M this (rd M (this + 38 + 10) v1.toNatClampNeg)))
def f_X4_inOrder_L36 (this : Nat) (v1 : Int32) (v2 : Int32) : Nat → Mem → Int32 → Option (Int32 × Mem)
  | 0, _, _ => none
  | n + 1, M, v3 => if (300 : Int32) ≤ v3 then (f_X4_inOrder_L73 M this v1 v2) else (bd (f_X3_eventsThatWait M (this + 38)) (fun x2 => if x2 ≤ (0 : Int32) then (f_X4_inOrder_L73 M this v1 v2) else (bd (f_X3_partOfLeastTime M (this + 38)) (fun x5 => bd (f_X3_workOnFirst M (this + 38) x5) (fun M7 => nm (v3 + (1 : Int32)) (fun x10 => f_X4_inOrder_L36 this v1 v2 n M7 x10))))))
def f_X4_inOrder (M : Mem) (this : Nat) (v1 : Int32) (v2 : Int32) : Option (Int32 × Mem) := bd (f_X4_isNoPart M this v1) (fun x1 => if x1 = (0 : Int32) then (bd (f_X4_isOutside v2 (0 : Int32) (1 : Int32)) (fun x4 => if x4 = (0 : Int32) then (bd (f_X3_copyFrom M (this + 38) (this + 1)) (fun M7 => f_X4_inOrder_L36 this v1 v2 1000 M7 (0 : Int32))) else (some ((-1000000002 : Int32), M)))) else (some ((-1000000001 : Int32), M)))
/-! X4_isNoImage -/
def f_X4_isNoImage_L14 (s0 : Int32) : Option Int32 := zk s0 (some s0)
def f_X4_isNoImage_L9 : Option Int32 := f_X4_isNoImage_L14 (1 : Int32)
def f_X4_isNoImage (v0 : Int32) : Option Int32 := if v0 < (0 : Int32) then (f_X4_isNoImage_L9) else (if v0 < (2 : Int32) then (f_X4_isNoImage_L14 (0 : Int32)) else (f_X4_isNoImage_L9))
/-! X4_keep -/
def f_X4_keep (M : Mem) (this : Nat) (v1 : Int32) : Option (Int32 × Mem) := bd (f_X4_isNoImage v1) (fun x1 => if x1 = (0 : Int32) then (ck v1 2 (bd (f_X3_copyFrom M (this + 75 + 1 + 37 * v1.toNatClampNeg) (this + 1)) (fun M5 => ck v1 2 (nm (wr M5 (this + 150) v1.toNatClampNeg (1 : Int32)) (fun M9 => some ((1 : Int32), M9)))))) else (some ((-1000000001 : Int32), M)))
/-! X4_goBack -/
def f_X4_goBack (M : Mem) (this : Nat) (v1 : Int32) : Option (Int32 × Mem) := bd (f_X4_isNoImage v1) (fun x1 => if x1 = (0 : Int32) then (ck v1 2 (if (rd M (this + 150) v1.toNatClampNeg) = (0 : Int32) then (some ((-1000000003 : Int32), M)) else (ck v1 2 (bd (f_X3_copyFrom M (this + 1) (this + 75 + 1 + 37 * v1.toNatClampNeg)) (fun M7 => some ((1 : Int32), M7)))))) else (some ((-1000000001 : Int32), M)))
/-! X5_in -/
def f_X5_in_L18 (s0 : Int32) : Option Int32 := zk s0 (some s0)
def f_X5_in_L17 : Option Int32 := f_X5_in_L18 (0 : Int32)
def f_X5_in (l0 : Int64) (l2 : Int64) (l4 : Int64) : Option Int32 := if (lg_cmp l0 l2) < (0 : Int32) then (f_X5_in_L17) else (if (0 : Int32) < (lg_cmp l0 l4) then (f_X5_in_L17) else (f_X5_in_L18 (1 : Int32)))
/-! X5_has -/
def f_X5_has_L14 (s0 : Int32) : Option Int32 := zk s0 (some s0)
def f_X5_has (v0 : Int32) (v1 : Int32) : Option Int32 := if ((v0 >>> (v1 &&& 31)) &&& (1 : Int32)) = (1 : Int32) then (f_X5_has_L14 (1 : Int32)) else (f_X5_has_L14 (0 : Int32))
/-! X5_copy -/
def f_X5_copy_L2 (this : Nat) (v1 : Int32) (v2 : Int32) : Nat → Mem → Int32 → Option Mem
  | 0, _, _ => none
  | n + 1, M, v3 => if (262 : Int32) ≤ v3 then (some M) else (ck (v1 + v3) 1048 (ck (v2 + v3) 1048 (nm (wr M (this + 1) (v2 + v3).toNatClampNeg (rd M (this + 1) (v1 + v3).toNatClampNeg)) (fun M4 => nm (v3 + (1 : Int32)) (fun x5 => f_X5_copy_L2 this v1 v2 n M4 x5)))))
def f_X5_copy (M : Mem) (this : Nat) (v1 : Int32) (v2 : Int32) : Option Mem := f_X5_copy_L2 this v1 v2 1000 M (0 : Int32)
/-! X5_isPart -/
def f_X5_isPart (M : Mem) (this : Nat) (v1 : Int32) : Option Int32 := ck (0 : Int32) 1048 (bd (f_X5_in (v1.toInt64) (0 : Int64) (((rd M (this + 1) (0 : Int32).toNatClampNeg) - (1 : Int32)).toInt64)) (fun x2 => zk x2 (some x2)))
/-! X5_isChannel -/
def f_X5_isChannel (M : Mem) (this : Nat) (v1 : Int32) : Option Int32 := ck (1 : Int32) 1048 (bd (f_X5_in (v1.toInt64) (0 : Int64) (((rd M (this + 1) (1 : Int32).toNatClampNeg) - (1 : Int32)).toInt64)) (fun x2 => zk x2 (some x2)))
/-! X5_at -/
def f_X5_at (v0 : Int32) (v1 : Int32) : Option Int32 := some ((v0 + (28 : Int32)) + ((7 : Int32) * v1))
/-! X5_parts -/
def f_X5_parts_L32 (this : Nat) (v1 : Int32) (v2 : Int32) (v3 : Int32) : Nat → Mem → Int32 → Option (Int32 × Mem)
  | 0, _, _ => none
  | n + 1, M, v4 => if (262 : Int32) ≤ v4 then (ck (0 : Int32) 1048 (nm (wr M (this + 1) (0 : Int32).toNatClampNeg v1) (fun M3 => ck (2 : Int32) 1048 (nm (wr M3 (this + 1) (2 : Int32).toNatClampNeg v3) (fun M5 => nm (wr M5 this 2 (0 : Int32)) (fun M6 => ck (0 : Int32) 2 (nm (wr M6 (this + 2) (0 : Int32).toNatClampNeg (0 : Int32)) (fun M8 => ck (1 : Int32) 2 (nm (wr M8 (this + 2) (1 : Int32).toNatClampNeg (0 : Int32)) (fun M10 => some (v2, M10))))))))))) else (ck v4 1048 (nm (wr M (this + 1) v4.toNatClampNeg (0 : Int32)) (fun M12 => nm (v4 + (1 : Int32)) (fun x13 => f_X5_parts_L32 this v1 v2 v3 n M12 x13))))
def f_X5_parts (M : Mem) (this : Nat) (v1 : Int32) : Option (Int32 × Mem) := bd (f_X5_in (v1.toInt64) (1 : Int64) (6 : Int64)) (fun x1 => if x1 = (0 : Int32) then (some ((-1000000002 : Int32), M)) else (ck (3 : Int32) 1048 (nm (rd M (this + 1) (3 : Int32).toNatClampNeg) (fun x5 => ck (2 : Int32) 1048 (nm (rd M (this + 1) (2 : Int32).toNatClampNeg) (fun x7 => f_X5_parts_L32 this v1 x5 x7 1000 M (0 : Int32)))))))
/-! X5_wayOf -/
def f_X5_wayOf_L46 (k2 : Int32 → Option Int32) (M : Mem) (this : Nat) (v1 : Int32) (v2 : Int32) (v3 : Int32) : Option Int32 := nm (v3 + (1 : Int32)) (fun x1 => k2 x1)
def f_X5_wayOf_L2 (M : Mem) (this : Nat) (v1 : Int32) (v2 : Int32) : Nat → Int32 → Option Int32
  | 0, _ => none
  | n + 1, v3 => ck (1 : Int32) 1048 (if (rd M (this + 1) (1 : Int32).toNatClampNeg) ≤ v3 then (some (-1 : Int32)) else (bd (f_X5_at (0 : Int32) v3) (fun x3 => ck (x3 + (0 : Int32)) 1048 (if (rd M (this + 1) (x3 + (0 : Int32)).toNatClampNeg) = v1 then (bd (f_X5_at (0 : Int32) v3) (fun x7 => ck (x7 + (1 : Int32)) 1048 (if (rd M (this + 1) (x7 + (1 : Int32)).toNatClampNeg) = v2 then (some v3) else (f_X5_wayOf_L46 (fun q3 => f_X5_wayOf_L2 M this v1 v2 n q3) M this v1 v2 v3)))) else (f_X5_wayOf_L46 (fun q3 => f_X5_wayOf_L2 M this v1 v2 n q3) M this v1 v2 v3)))))
def f_X5_wayOf (M : Mem) (this : Nat) (v1 : Int32) (v2 : Int32) : Option Int32 := f_X5_wayOf_L2 M this v1 v2 1000 (0 : Int32)
/-! X5_channel -/
def f_X5_channel_L21 (M : Mem) (this : Nat) : Option (Int32 × Mem) := some ((-1000000001 : Int32), M)
def f_X5_channel_L55 (M : Mem) (this : Nat) : Option (Int32 × Mem) := some ((-1000000002 : Int32), M)
def f_X5_channel_L85 (M : Mem) (this : Nat) : Option (Int32 × Mem) := some ((-1000000003 : Int32), M)
def f_X5_channel (M : Mem) (this : Nat) (v1 : Int32) (v2 : Int32) (v3 : Int32) (v4 : Int32) : Option (Int32 × Mem) := bd (f_X5_isPart M this v1) (fun x1 => if x1 = (0 : Int32) then (f_X5_channel_L21 M this) else (bd (f_X5_isPart M this v2) (fun x4 => if x4 = (0 : Int32) then (f_X5_channel_L21 M this) else (if v1 = v2 then (f_X5_channel_L21 M this) else (bd (f_X5_in (v3.toInt64) (0 : Int64) (99 : Int64)) (fun x8 => if x8 = (0 : Int32) then (f_X5_channel_L55 M this) else (bd (f_X5_in (v4.toInt64) (1 : Int64) (99 : Int64)) (fun x11 => if x11 = (0 : Int32) then (f_X5_channel_L55 M this) else (if v3 ≤ v4 then (bd (f_X5_wayOf M this v1 v2) (fun x15 => if x15 = (-1 : Int32) then (ck (5 : Int32) 1048 (ck (6 : Int32) 1048 (if ((rd M (this + 1) (5 : Int32).toNatClampNeg) + (rd M (this + 1) (6 : Int32).toNatClampNeg)) ≤ (0 : Int32) then (ck (1 : Int32) 1048 (if (rd M (this + 1) (1 : Int32).toNatClampNeg) = (12 : Int32) then (some ((-1000000004 : Int32), M)) else (ck (1 : Int32) 1048 (bd (f_X5_at (0 : Int32) (rd M (this + 1) (1 : Int32).toNatClampNeg)) (fun x24 => ck (x24 + (0 : Int32)) 1048 (nm (wr M (this + 1) (x24 + (0 : Int32)).toNatClampNeg v1) (fun M27 => ck (x24 + (1 : Int32)) 1048 (nm (wr M27 (this + 1) (x24 + (1 : Int32)).toNatClampNeg v2) (fun M29 => ck (x24 + (2 : Int32)) 1048 (nm (wr M29 (this + 1) (x24 + (2 : Int32)).toNatClampNeg v3) (fun M31 => ck (x24 + (3 : Int32)) 1048 (nm (wr M31 (this + 1) (x24 + (3 : Int32)).toNatClampNeg v4) (fun M33 => ck (x24 + (4 : Int32)) 1048 (nm (wr M33 (this + 1) (x24 + (4 : Int32)).toNatClampNeg (0 : Int32)) (fun M35 => ck (x24 + (5 : Int32)) 1048 (nm (wr M35 (this + 1) (x24 + (5 : Int32)).toNatClampNeg (0 : Int32)) (fun M37 => ck (x24 + (6 : Int32)) 1048 (nm (wr M37 (this + 1) (x24 + (6 : Int32)).toNatClampNeg (0 : Int32)) (fun M39 => ck (1 : Int32) 1048 (ck (1 : Int32) 1048 (nm (wr M39 (this + 1) (1 : Int32).toNatClampNeg ((rd M39 (this + 1) (1 : Int32).toNatClampNeg) + (1 : Int32))) (fun M42 => ck (1 : Int32) 1048 (some (((rd M42 (this + 1) (1 : Int32).toNatClampNeg) - (1 : Int32)), M42)))))))))))))))))))))))) else (f_X5_channel_L85 M this)))) else (f_X5_channel_L85 M this))) else (f_X5_channel_L55 M this))))))))))
/-! X5_comes -/
def f_X5_comes (M : Mem) (this : Nat) (v1 : Int32) (v2 : Int32) (v3 : Int32) (v4 : Int32) (v5 : Int32) : Option Mem := ck (v1 + (9 : Int32)) 1048 (nm ((v1 + (112 : Int32)) + ((5 : Int32) * (rd M (this + 1) (v1 + (9 : Int32)).toNatClampNeg))) (fun x2 => ck (x2 + (0 : Int32)) 1048 (nm (wr M (this + 1) (x2 + (0 : Int32)).toNatClampNeg v2) (fun M4 => ck (x2 + (1 : Int32)) 1048 (nm (wr M4 (this + 1) (x2 + (1 : Int32)).toNatClampNeg v3) (fun M6 => ck (x2 + (2 : Int32)) 1048 (nm (wr M6 (this + 1) (x2 + (2 : Int32)).toNatClampNeg v4) (fun M8 => ck (x2 + (3 : Int32)) 1048 (nm (wr M8 (this + 1) (x2 + (3 : Int32)).toNatClampNeg v5) (fun M10 => ck (v1 + (8 : Int32)) 1048 (ck (x2 + (4 : Int32)) 1048 (nm (wr M10 (this + 1) (x2 + (4 : Int32)).toNatClampNeg (rd M10 (this + 1) (v1 + (8 : Int32)).toNatClampNeg)) (fun M13 => nm (v1 + (8 : Int32)) (fun x14 => ck x14 1048 (ck x14 1048 (nm (wr M13 (this + 1) x14.toNatClampNeg ((rd M13 (this + 1) x14.toNatClampNeg) + (1 : Int32))) (fun M17 => nm (v1 + (9 : Int32)) (fun x18 => ck x18 1048 (ck x18 1048 (nm (wr M17 (this + 1) x18.toNatClampNeg ((rd M17 (this + 1) x18.toNatClampNeg) + (1 : Int32))) (fun M21 => some M21)))))))))))))))))))))
/-! X5_waitFor -/
def f_X5_waitFor_L45 (k5 : Int32 → Int32 → Option Int32) (M : Mem) (this : Nat) (v1 : Int32) (v2 : Int32) (v4 : Int32) (s0 : Int32) (s1 : Int32) : Option Int32 := nm (s1 + s0) (fun x1 => nm (v4 + (1 : Int32)) (fun x2 => k5 x1 x2))
def f_X5_waitFor_L5 (M : Mem) (this : Nat) (v1 : Int32) (v2 : Int32) : Nat → Int32 → Int32 → Option Int32
  | 0, _, _ => none
  | n + 1, v3, v4 => ck (v1 + (9 : Int32)) 1048 (if (rd M (this + 1) (v1 + (9 : Int32)).toNatClampNeg) ≤ v4 then (some v3) else (ck (((v1 + (112 : Int32)) + ((5 : Int32) * v4)) + (0 : Int32)) 1048 (if (rd M (this + 1) (((v1 + (112 : Int32)) + ((5 : Int32) * v4)) + (0 : Int32)).toNatClampNeg) = v2 then (f_X5_waitFor_L45 (fun q3 q4 => f_X5_waitFor_L5 M this v1 v2 n q3 q4) M this v1 v2 v4 (1 : Int32) v3) else (f_X5_waitFor_L45 (fun q3 q4 => f_X5_waitFor_L5 M this v1 v2 n q3 q4) M this v1 v2 v4 (0 : Int32) v3))))
def f_X5_waitFor (M : Mem) (this : Nat) (v1 : Int32) (v2 : Int32) : Option Int32 := f_X5_waitFor_L5 M this v1 v2 1000 (0 : Int32) (0 : Int32)
/-! X5_isPromised -/
def f_X5_isPromised_L73 (k5 : Int32 → Int32 → Option Int32) (M : Mem) (this : Nat) (v1 : Int32) (v2 : Int32) (v4 : Int32) (s0 : Int32) : Option Int32 := nm (v4 + (1 : Int32)) (fun x1 => k5 s0 x1)
def f_X5_isPromised_L68 (k5 : Int32 → Int32 → Option Int32) (M : Mem) (this : Nat) (v1 : Int32) (v2 : Int32) (v4 : Int32) : Option Int32 := f_X5_isPromised_L73 k5 M this v1 v2 v4 (1 : Int32)
def f_X5_isPromised_L72 (k5 : Int32 → Int32 → Option Int32) (M : Mem) (this : Nat) (v1 : Int32) (v2 : Int32) (v4 : Int32) : Option Int32 := f_X5_isPromised_L73 k5 M this v1 v2 v4 (0 : Int32)
def f_X5_isPromised_L5 (M : Mem) (this : Nat) (v1 : Int32) (v2 : Int32) : Nat → Int32 → Int32 → Option Int32
  | 0, _, _ => none
  | n + 1, v3, v4 => ck (1 : Int32) 1048 (if (rd M (this + 1) (1 : Int32).toNatClampNeg) ≤ v4 then (zk v3 (some v3)) else (if v3 = (0 : Int32) then (bd (f_X5_at (0 : Int32) v4) (fun x5 => ck (x5 + (0 : Int32)) 1048 (if (rd M (this + 1) (x5 + (0 : Int32)).toNatClampNeg) = v1 then (bd (f_X5_at (0 : Int32) v4) (fun x9 => ck (x9 + (4 : Int32)) 1048 (bd (f_X5_at (0 : Int32) v4) (fun x12 => ck (x12 + (2 : Int32)) 1048 (if (rd M (this + 1) (x9 + (4 : Int32)).toNatClampNeg) ≤ (v2 + (rd M (this + 1) (x12 + (2 : Int32)).toNatClampNeg)) then (f_X5_isPromised_L72 (fun q3 q4 => f_X5_isPromised_L5 M this v1 v2 n q3 q4) M this v1 v2 v4) else (f_X5_isPromised_L68 (fun q3 q4 => f_X5_isPromised_L5 M this v1 v2 n q3 q4) M this v1 v2 v4)))))) else (f_X5_isPromised_L72 (fun q3 q4 => f_X5_isPromised_L5 M this v1 v2 n q3 q4) M this v1 v2 v4)))) else (f_X5_isPromised_L68 (fun q3 q4 => f_X5_isPromised_L5 M this v1 v2 n q3 q4) M this v1 v2 v4)))
def f_X5_isPromised (M : Mem) (this : Nat) (v1 : Int32) (v2 : Int32) : Option Int32 := f_X5_isPromised_L5 M this v1 v2 1000 (0 : Int32) (0 : Int32)
/-! X5_event -/
def f_X5_event_L35 (M : Mem) (this : Nat) : Option (Int32 × Mem) := some ((-1000000002 : Int32), M)
def f_X5_event_L72 (M : Mem) (this : Nat) : Option (Int32 × Mem) := some ((-1000000003 : Int32), M)
def f_X5_event_L63 (M : Mem) (this : Nat) (v1 : Int32) (v2 : Int32) (v3 : Int32) : Option (Int32 × Mem) := bd (f_X5_isPromised M this v1 v2) (fun x1 => if x1 = (0 : Int32) then (ck (7 : Int32) 1048 (if (rd M (this + 1) (7 : Int32).toNatClampNeg) = (30 : Int32) then (some ((-1000000004 : Int32), M)) else (bd (f_X5_comes M this (0 : Int32) v1 v2 (-1 : Int32) v3) (fun M6 => ck (7 : Int32) 1048 (ck (7 : Int32) 1048 (nm (wr M6 (this + 1) (7 : Int32).toNatClampNeg ((rd M6 (this + 1) (7 : Int32).toNatClampNeg) + (1 : Int32))) (fun M11 => bd (f_X5_waitFor M11 this (0 : Int32) v1) (fun x12 => some (x12, M11))))))))) else (f_X5_event_L72 M this))
def f_X5_event (M : Mem) (this : Nat) (v1 : Int32) (v2 : Int32) (v3 : Int32) : Option (Int32 × Mem) := bd (f_X5_isPart M this v1) (fun x1 => if x1 = (0 : Int32) then (some ((-1000000001 : Int32), M)) else (bd (f_X5_in (v2.toInt64) (0 : Int64) (9999 : Int64)) (fun x4 => if x4 = (0 : Int32) then (f_X5_event_L35 M this) else (bd (f_X5_in (v3.toInt64) (0 : Int64) (99 : Int64)) (fun x7 => if x7 = (0 : Int32) then (f_X5_event_L35 M this) else (ck ((10 : Int32) + v1) 1048 (if (rd M (this + 1) ((10 : Int32) + v1).toNatClampNeg) ≤ (0 : Int32) then (f_X5_event_L63 M this v1 v2 v3) else (ck ((22 : Int32) + v1) 1048 (if v2 ≤ (rd M (this + 1) ((22 : Int32) + v1).toNatClampNeg) then (f_X5_event_L72 M this) else (f_X5_event_L63 M this v1 v2 v3))))))))))
/-! X5_form -/
def f_X5_form (M : Mem) (this : Nat) (v1 : Int32) : Option (Int32 × Mem) := bd (f_X5_in (v1.toInt64) (0 : Int64) (2 : Int64)) (fun x1 => if x1 = (0 : Int32) then (some ((-1000000002 : Int32), M)) else (ck (2 : Int32) 1048 (nm (rd M (this + 1) (2 : Int32).toNatClampNeg) (fun x5 => ck (2 : Int32) 1048 (nm (wr M (this + 1) (2 : Int32).toNatClampNeg v1) (fun M7 => some (x5, M7)))))))
/-! X5_draw -/
def f_X5_draw (M : Mem) (this : Nat) (v1 : Int32) : Option (Int32 × Mem) := nzl (2147483647 : Int64) (nm (wrJ M (jreml ((rdJ M) * (16807 : Int64)) (2147483647 : Int64))) (fun M2 => nzl (v1.toInt64) (some (((jreml (rdJ M2) (v1.toInt64)).toInt32), M2))))
/-! X5_drift -/
def f_X5_drift_L24 (M : Mem) (this : Nat) : Option (Int32 × Mem) := some ((-1000000002 : Int32), M)
def f_X5_drift_L116 (k50 : Mem → Int32 → Int32 → Option (Int32 × Mem)) (M : Mem) (this : Nat) (v1 : Int32) (v4 : Int32) (s0 : Int32) (s1 : Int32) : Option (Int32 × Mem) := nm (s1 + s0) (fun x1 => nm (v4 + (1 : Int32)) (fun x2 => k50 M x1 x2))
def f_X5_drift_L50 (this : Nat) (v1 : Int32) : Nat → Mem → Int32 → Int32 → Option (Int32 × Mem)
  | 0, _, _, _ => none
  | n + 1, M, v3, v4 => if v1 ≤ v4 then (some (v3, M)) else (ck (0 : Int32) 1048 (bd2 (f_X5_draw M this (rd M (this + 1) (0 : Int32).toNatClampNeg)) (fun x4 M3 => ck ((22 : Int32) + x4) 1048 (bd2 (f_X5_draw M3 this (50 : Int32)) (fun x8 M7 => nm (((rd M3 (this + 1) ((22 : Int32) + x4).toNatClampNeg) + (1 : Int32)) + x8) (fun x10 => bd2 (f_X5_draw M7 this (20 : Int32)) (fun x12 M11 => bd2 (f_X5_event M11 this x4 x10 x12) (fun x15 M14 => if x15 ≤ (0 : Int32) then (f_X5_drift_L116 (fun Mq q3 q4 => f_X5_drift_L50 this v1 n Mq q3 q4) M14 this v1 v4 (0 : Int32) v3) else (f_X5_drift_L116 (fun Mq q3 q4 => f_X5_drift_L50 this v1 n Mq q3 q4) M14 this v1 v4 (1 : Int32) v3)))))))))
def f_X5_drift (M : Mem) (this : Nat) (v1 : Int32) (v2 : Int32) : Option (Int32 × Mem) := bd (f_X5_in (v1.toInt64) (1 : Int64) (20 : Int64)) (fun x1 => if x1 = (0 : Int32) then (f_X5_drift_L24 M this) else (bd (f_X5_in (v2.toInt64) (1 : Int64) (999999 : Int64)) (fun x4 => if x4 = (0 : Int32) then (f_X5_drift_L24 M this) else (ck (0 : Int32) 1048 (if (rd M (this + 1) (0 : Int32).toNatClampNeg) = (0 : Int32) then (some ((-1000000003 : Int32), M)) else (nm (wrJ M (v2.toInt64)) (fun M9 => f_X5_drift_L50 this v1 1000 M9 (0 : Int32) (0 : Int32))))))))
/-! X5_isAhead -/
def f_X5_isAhead_L43 (M : Mem) (this : Nat) (s0 : Int32) : Option Int32 := zk s0 (some s0)
def f_X5_isAhead_L114 (M : Mem) (this : Nat) (s0 : Int32) : Option Int32 := zk s0 (some s0)
def f_X5_isAhead (M : Mem) (this : Nat) (v1 : Int32) (v2 : Int32) : Option Int32 := ck (v1 + (1 : Int32)) 1048 (ck (v2 + (1 : Int32)) 1048 (if (rd M (this + 1) (v1 + (1 : Int32)).toNatClampNeg) = (rd M (this + 1) (v2 + (1 : Int32)).toNatClampNeg) then (ck (v1 + (2 : Int32)) 1048 (ck (v2 + (2 : Int32)) 1048 (if (rd M (this + 1) (v1 + (2 : Int32)).toNatClampNeg) = (rd M (this + 1) (v2 + (2 : Int32)).toNatClampNeg) then (ck (v1 + (4 : Int32)) 1048 (ck (v2 + (4 : Int32)) 1048 (if (rd M (this + 1) (v2 + (4 : Int32)).toNatClampNeg) ≤ (rd M (this + 1) (v1 + (4 : Int32)).toNatClampNeg) then (f_X5_isAhead_L114 M this (0 : Int32)) else (f_X5_isAhead_L114 M this (1 : Int32))))) else (ck (v1 + (2 : Int32)) 1048 (ck (v2 + (2 : Int32)) 1048 (if (rd M (this + 1) (v2 + (2 : Int32)).toNatClampNeg) ≤ (rd M (this + 1) (v1 + (2 : Int32)).toNatClampNeg) then (f_X5_isAhead_L114 M this (0 : Int32)) else (f_X5_isAhead_L114 M this (1 : Int32)))))))) else (ck (v1 + (1 : Int32)) 1048 (ck (v2 + (1 : Int32)) 1048 (if (rd M (this + 1) (v2 + (1 : Int32)).toNatClampNeg) ≤ (rd M (this + 1) (v1 + (1 : Int32)).toNatClampNeg) then (f_X5_isAhead_L43 M this (0 : Int32)) else (f_X5_isAhead_L43 M this (1 : Int32)))))))
/-! X5_firstOf -/
def f_X5_firstOf_L64 (k5 : Int32 → Int32 → Option Int32) (M : Mem) (this : Nat) (v1 : Int32) (v2 : Int32) (v4 : Int32) (s0 : Int32) : Option Int32 := nm (v4 + (1 : Int32)) (fun x1 => k5 s0 x1)
def f_X5_firstOf_L58 (k5 : Int32 → Int32 → Option Int32) (M : Mem) (this : Nat) (v1 : Int32) (v2 : Int32) (v4 : Int32) (v5 : Int32) : Option Int32 := f_X5_firstOf_L64 k5 M this v1 v2 v4 v5
def f_X5_firstOf_L63 (k5 : Int32 → Int32 → Option Int32) (M : Mem) (this : Nat) (v1 : Int32) (v2 : Int32) (v3 : Int32) (v4 : Int32) : Option Int32 := f_X5_firstOf_L64 k5 M this v1 v2 v4 v3
def f_X5_firstOf_L5 (M : Mem) (this : Nat) (v1 : Int32) (v2 : Int32) : Nat → Int32 → Int32 → Option Int32
  | 0, _, _ => none
  | n + 1, v3, v4 => ck (v1 + (9 : Int32)) 1048 (if (rd M (this + 1) (v1 + (9 : Int32)).toNatClampNeg) ≤ v4 then (some v3) else (nm ((v1 + (112 : Int32)) + ((5 : Int32) * v4)) (fun x3 => ck (x3 + (0 : Int32)) 1048 (if (rd M (this + 1) (x3 + (0 : Int32)).toNatClampNeg) = v2 then (if v3 = (-1 : Int32) then (f_X5_firstOf_L58 (fun q3 q4 => f_X5_firstOf_L5 M this v1 v2 n q3 q4) M this v1 v2 v4 x3) else (bd (f_X5_isAhead M this x3 v3) (fun x7 => if x7 = (0 : Int32) then (f_X5_firstOf_L63 (fun q3 q4 => f_X5_firstOf_L5 M this v1 v2 n q3 q4) M this v1 v2 v3 v4) else (f_X5_firstOf_L58 (fun q3 q4 => f_X5_firstOf_L5 M this v1 v2 n q3 q4) M this v1 v2 v4 x3)))) else (f_X5_firstOf_L63 (fun q3 q4 => f_X5_firstOf_L5 M this v1 v2 n q3 q4) M this v1 v2 v3 v4)))))
def f_X5_firstOf (M : Mem) (this : Nat) (v1 : Int32) (v2 : Int32) : Option Int32 := f_X5_firstOf_L5 M this v1 v2 1000 (-1 : Int32) (0 : Int32)
/-! X5_firstTime -/
def f_X5_firstTime_L25 (M : Mem) (this : Nat) (s0 : Int32) : Option Int32 := some s0
def f_X5_firstTime (M : Mem) (this : Nat) (v1 : Int32) (v2 : Int32) : Option Int32 := bd (f_X5_firstOf M this v1 v2) (fun x1 => if x1 = (-1 : Int32) then (f_X5_firstTime_L25 M this (99999999 : Int32)) else (ck (x1 + (1 : Int32)) 1048 (f_X5_firstTime_L25 M this (rd M (this + 1) (x1 + (1 : Int32)).toNatClampNeg))))
/-! X5_leastTo -/
def f_X5_leastTo_L67 (k4 : Int32 → Int32 → Option Int32) (M : Mem) (this : Nat) (v1 : Int32) (v3 : Int32) (s0 : Int32) : Option Int32 := nm (v3 + (1 : Int32)) (fun x1 => k4 s0 x1)
def f_X5_leastTo_L62 (k4 : Int32 → Int32 → Option Int32) (M : Mem) (this : Nat) (v1 : Int32) (v3 : Int32) : Option Int32 := f_X5_leastTo_L67 k4 M this v1 v3 v3
def f_X5_leastTo_L66 (k4 : Int32 → Int32 → Option Int32) (M : Mem) (this : Nat) (v1 : Int32) (v2 : Int32) (v3 : Int32) : Option Int32 := f_X5_leastTo_L67 k4 M this v1 v3 v2
def f_X5_leastTo_L4 (M : Mem) (this : Nat) (v1 : Int32) : Nat → Int32 → Int32 → Option Int32
  | 0, _, _ => none
  | n + 1, v2, v3 => ck (1 : Int32) 1048 (if (rd M (this + 1) (1 : Int32).toNatClampNeg) ≤ v3 then (some v2) else (bd (f_X5_at (0 : Int32) v3) (fun x3 => ck (x3 + (1 : Int32)) 1048 (if (rd M (this + 1) (x3 + (1 : Int32)).toNatClampNeg) = v1 then (if v2 = (-1 : Int32) then (f_X5_leastTo_L62 (fun q2 q3 => f_X5_leastTo_L4 M this v1 n q2 q3) M this v1 v3) else (bd (f_X5_at (0 : Int32) v3) (fun x8 => ck (x8 + (4 : Int32)) 1048 (bd (f_X5_at (0 : Int32) v2) (fun x11 => ck (x11 + (4 : Int32)) 1048 (if (rd M (this + 1) (x11 + (4 : Int32)).toNatClampNeg) ≤ (rd M (this + 1) (x8 + (4 : Int32)).toNatClampNeg) then (f_X5_leastTo_L66 (fun q2 q3 => f_X5_leastTo_L4 M this v1 n q2 q3) M this v1 v2 v3) else (f_X5_leastTo_L62 (fun q2 q3 => f_X5_leastTo_L4 M this v1 n q2 q3) M this v1 v3))))))) else (f_X5_leastTo_L66 (fun q2 q3 => f_X5_leastTo_L4 M this v1 n q2 q3) M this v1 v2 v3)))))
def f_X5_leastTo (M : Mem) (this : Nat) (v1 : Int32) : Option Int32 := f_X5_leastTo_L4 M this v1 1000 (-1 : Int32) (0 : Int32)
/-! X5_safe -/
def f_X5_safe_L28 (M : Mem) (this : Nat) (s0 : Int32) : Option Int32 := some s0
def f_X5_safe (M : Mem) (this : Nat) (v1 : Int32) : Option Int32 := bd (f_X5_leastTo M this v1) (fun x1 => if x1 = (-1 : Int32) then (f_X5_safe_L28 M this (99999999 : Int32)) else (bd (f_X5_at (0 : Int32) x1) (fun x4 => ck (x4 + (4 : Int32)) 1048 (f_X5_safe_L28 M this (rd M (this + 1) (x4 + (4 : Int32)).toNatClampNeg)))))
/-! X5_may -/
def f_X5_may_L29 (M : Mem) (this : Nat) (s0 : Int32) : Option Int32 := zk s0 (some s0)
def f_X5_may_L28 (M : Mem) (this : Nat) : Option Int32 := f_X5_may_L29 M this (0 : Int32)
def f_X5_may (M : Mem) (this : Nat) (v1 : Int32) : Option Int32 := bd (f_X5_firstOf M this (0 : Int32) v1) (fun x1 => if x1 = (-1 : Int32) then (f_X5_may_L28 M this) else (bd (f_X5_firstTime M this (0 : Int32) v1) (fun x4 => bd (f_X5_safe M this v1) (fun x6 => if x6 ≤ x4 then (f_X5_may_L28 M this) else (f_X5_may_L29 M this (1 : Int32))))))
/-! X5_outOf -/
def f_X5_outOf_L41 (k5 : Int32 → Int32 → Option Int32) (M : Mem) (this : Nat) (v1 : Int32) (v2 : Int32) (v4 : Int32) (s0 : Int32) (s1 : Int32) : Option Int32 := nm (s1 + s0) (fun x1 => nm (v4 + (1 : Int32)) (fun x2 => k5 x1 x2))
def f_X5_outOf_L5 (M : Mem) (this : Nat) (v1 : Int32) (v2 : Int32) : Nat → Int32 → Int32 → Option Int32
  | 0, _, _ => none
  | n + 1, v3, v4 => ck (v1 + (1 : Int32)) 1048 (if (rd M (this + 1) (v1 + (1 : Int32)).toNatClampNeg) ≤ v4 then (some v3) else (bd (f_X5_at v1 v4) (fun x3 => ck (x3 + (0 : Int32)) 1048 (if (rd M (this + 1) (x3 + (0 : Int32)).toNatClampNeg) = v2 then (f_X5_outOf_L41 (fun q3 q4 => f_X5_outOf_L5 M this v1 v2 n q3 q4) M this v1 v2 v4 (1 : Int32) v3) else (f_X5_outOf_L41 (fun q3 q4 => f_X5_outOf_L5 M this v1 v2 n q3 q4) M this v1 v2 v4 (0 : Int32) v3)))))
def f_X5_outOf (M : Mem) (this : Nat) (v1 : Int32) (v2 : Int32) : Option Int32 := f_X5_outOf_L5 M this v1 v2 1000 (0 : Int32) (0 : Int32)
/-! X5_outAt -/
def f_X5_outAt_L57 (k9 : Int32 → Int32 → Int32 → Option Int32) (M : Mem) (this : Nat) (v1 : Int32) (v2 : Int32) (v3 : Int32) (v4 : Int32) (v5 : Int32) (v6 : Int32) : Option Int32 := nm (v6 + (1 : Int32)) (fun x1 => k9 v4 v5 x1)
def f_X5_outAt_L52 (k9 : Int32 → Int32 → Int32 → Option Int32) (M : Mem) (this : Nat) (v1 : Int32) (v2 : Int32) (v3 : Int32) (v5 : Int32) (v6 : Int32) (s0 : Int32) : Option Int32 := nm (v5 + (1 : Int32)) (fun x1 => f_X5_outAt_L57 k9 M this v1 v2 v3 s0 x1 v6)
def f_X5_outAt_L9 (M : Mem) (this : Nat) (v1 : Int32) (v2 : Int32) (v3 : Int32) : Nat → Int32 → Int32 → Int32 → Option Int32
  | 0, _, _, _ => none
  | n + 1, v4, v5, v6 => ck (v1 + (1 : Int32)) 1048 (if (rd M (this + 1) (v1 + (1 : Int32)).toNatClampNeg) ≤ v6 then (some v4) else (bd (f_X5_at v1 v6) (fun x3 => ck (x3 + (0 : Int32)) 1048 (if (rd M (this + 1) (x3 + (0 : Int32)).toNatClampNeg) = v2 then (if v5 = v3 then (f_X5_outAt_L52 (fun q4 q5 q6 => f_X5_outAt_L9 M this v1 v2 v3 n q4 q5 q6) M this v1 v2 v3 v5 v6 v6) else (f_X5_outAt_L52 (fun q4 q5 q6 => f_X5_outAt_L9 M this v1 v2 v3 n q4 q5 q6) M this v1 v2 v3 v5 v6 v4)) else (f_X5_outAt_L57 (fun q4 q5 q6 => f_X5_outAt_L9 M this v1 v2 v3 n q4 q5 q6) M this v1 v2 v3 v4 v5 v6)))))
def f_X5_outAt (M : Mem) (this : Nat) (v1 : Int32) (v2 : Int32) (v3 : Int32) : Option Int32 := f_X5_outAt_L9 M this v1 v2 v3 1000 (-1 : Int32) (0 : Int32) (0 : Int32)
/-! X5_works -/
def f_X5_works_L404 (M : Mem) (this : Nat) : Option Mem := some M
def f_X5_works_L403 (M : Mem) (this : Nat) (s0 : Int32) (s1 : Int32) : Option Mem := ck s1 1048 (nm (wr M (this + 1) s1.toNatClampNeg s0) (fun M2 => f_X5_works_L404 M2 this))
def f_X5_works_L176 (M : Mem) (this : Nat) (v1 : Int32) (v3 : Int32) (v4 : Int32) (v5 : Int32) : Option Mem := nm (v1 + (9 : Int32)) (fun x1 => ck x1 1048 (ck x1 1048 (nm (wr M (this + 1) x1.toNatClampNeg ((rd M (this + 1) x1.toNatClampNeg) - (1 : Int32))) (fun M4 => nm (v1 + (3 : Int32)) (fun x5 => ck x5 1048 (ck x5 1048 (nm (wr M4 (this + 1) x5.toNatClampNeg ((rd M4 (this + 1) x5.toNatClampNeg) + (1 : Int32))) (fun M8 => nm ((v1 + (10 : Int32)) + v3) (fun x9 => ck x9 1048 (ck x9 1048 (nm (wr M8 (this + 1) x9.toNatClampNeg ((rd M8 (this + 1) x9.toNatClampNeg) + (1 : Int32))) (fun M12 => ck ((v1 + (16 : Int32)) + v3) 1048 (nz (1000003 : Int32) (ck ((v1 + (16 : Int32)) + v3) 1048 (nm (wr M12 (this + 1) ((v1 + (16 : Int32)) + v3).toNatClampNeg (jrem ((((31 : Int32) * (rd M12 (this + 1) ((v1 + (16 : Int32)) + v3).toNatClampNeg)) + v5) + v4) (1000003 : Int32))) (fun M16 => ck ((v1 + (22 : Int32)) + v3) 1048 (nm (wr M16 (this + 1) ((v1 + (22 : Int32)) + v3).toNatClampNeg v4) (fun M18 => bd (f_X5_outOf M18 this v1 v3) (fun x19 => if v5 ≤ (0 : Int32) then (f_X5_works_L404 M18 this) else (if x19 ≤ (0 : Int32) then (f_X5_works_L404 M18 this) else (nz x19 (bd (f_X5_outAt M18 this v1 v3 (jrem v5 x19)) (fun x24 => bd (f_X5_at v1 x24) (fun x26 => ck (x26 + (3 : Int32)) 1048 (nm (v4 + (rd M18 (this + 1) (x26 + (3 : Int32)).toNatClampNeg)) (fun x29 => bd (f_X5_at v1 x24) (fun x30 => ck (x30 + (1 : Int32)) 1048 (bd (f_X5_comes M18 this v1 (rd M18 (this + 1) (x30 + (1 : Int32)).toNatClampNeg) x29 x24 (v5 - (1 : Int32))) (fun M33 => bd (f_X5_at v1 x24) (fun x36 => nm (x36 + (5 : Int32)) (fun x38 => ck x38 1048 (ck x38 1048 (nm (wr M33 (this + 1) x38.toNatClampNeg ((rd M33 (this + 1) x38.toNatClampNeg) + (1 : Int32))) (fun M41 => bd (f_X5_at v1 x24) (fun x42 => bd (f_X5_at v1 x24) (fun x44 => ck (x44 + (4 : Int32)) 1048 (if x29 ≤ (rd M41 (this + 1) (x44 + (4 : Int32)).toNatClampNeg) then (bd (f_X5_at v1 x24) (fun x48 => ck (x48 + (4 : Int32)) 1048 (f_X5_works_L403 M41 this (rd M41 (this + 1) (x48 + (4 : Int32)).toNatClampNeg) (x42 + (4 : Int32))))) else (f_X5_works_L403 M41 this x29 (x42 + (4 : Int32))))))))))))))))))))))))))))))))))))))))
def f_X5_works_L145 (this : Nat) (v1 : Int32) (v2 : Int32) (v3 : Int32) (v4 : Int32) (v5 : Int32) (v6 : Int32) : Nat → Mem → Int32 → Option Mem
  | 0, _, _ => none
  | n + 1, M, v7 => if (5 : Int32) ≤ v7 then (f_X5_works_L176 M this v1 v3 v4 v5) else (ck (v6 + v7) 1048 (ck (v2 + v7) 1048 (nm (wr M (this + 1) (v2 + v7).toNatClampNeg (rd M (this + 1) (v6 + v7).toNatClampNeg)) (fun M4 => nm (v7 + (1 : Int32)) (fun x5 => f_X5_works_L145 this v1 v2 v3 v4 v5 v6 n M4 x5)))))
def f_X5_works_L122 (M : Mem) (this : Nat) (v1 : Int32) (v2 : Int32) (v3 : Int32) (v4 : Int32) (v5 : Int32) : Option Mem := ck (v1 + (9 : Int32)) 1048 (nm ((v1 + (112 : Int32)) + ((5 : Int32) * ((rd M (this + 1) (v1 + (9 : Int32)).toNatClampNeg) - (1 : Int32)))) (fun x2 => f_X5_works_L145 this v1 v2 v3 v4 v5 x2 1000 M (0 : Int32)))
def f_X5_works (M : Mem) (this : Nat) (v1 : Int32) (v2 : Int32) : Option Mem := ck (v2 + (0 : Int32)) 1048 (nm (rd M (this + 1) (v2 + (0 : Int32)).toNatClampNeg) (fun x2 => ck (v2 + (1 : Int32)) 1048 (nm (rd M (this + 1) (v2 + (1 : Int32)).toNatClampNeg) (fun x4 => ck (v2 + (3 : Int32)) 1048 (nm (rd M (this + 1) (v2 + (3 : Int32)).toNatClampNeg) (fun x6 => if v1 = (0 : Int32) then (if (200 : Int32) ≤ (rd M this 2) then (f_X5_works_L122 M this v1 v2 x2 x4 x6) else (ck ((4 : Int32) * (rd M this 2)) 800 (nm (wr M (this + 3) ((4 : Int32) * (rd M this 2)).toNatClampNeg x2) (fun M10 => ck (((4 : Int32) * (rd M10 this 2)) + (1 : Int32)) 800 (nm (wr M10 (this + 3) (((4 : Int32) * (rd M10 this 2)) + (1 : Int32)).toNatClampNeg x4) (fun M12 => ck (((4 : Int32) * (rd M12 this 2)) + (2 : Int32)) 800 (nm (wr M12 (this + 3) (((4 : Int32) * (rd M12 this 2)) + (2 : Int32)).toNatClampNeg x6) (fun M14 => ck (5 : Int32) 1048 (ck (6 : Int32) 1048 (ck (((4 : Int32) * (rd M14 this 2)) + (3 : Int32)) 800 (nm (wr M14 (this + 3) (((4 : Int32) * (rd M14 this 2)) + (3 : Int32)).toNatClampNeg ((rd M14 (this + 1) (5 : Int32).toNatClampNeg) + (rd M14 (this + 1) (6 : Int32).toNatClampNeg))) (fun M18 => nm (wr M18 this 2 ((rd M18 this 2) + (1 : Int32))) (fun M19 => f_X5_works_L122 M19 this v1 v2 x2 x4 x6))))))))))))) else (f_X5_works_L122 M this v1 v2 x2 x4 x6)))))))
/-! X5_empties -/
def f_X5_empties_L214 (k31 : Mem → Int32 → Int32 → Option (Int32 × Mem)) (M : Mem) (this : Nat) (v1 : Int32) (v4 : Int32) (v5 : Int32) (v6 : Int32) : Option (Int32 × Mem) := nm (v6 + (1 : Int32)) (fun x1 => k31 M v5 x1)
def f_X5_empties_L142 (k31 : Mem → Int32 → Int32 → Option (Int32 × Mem)) (M : Mem) (this : Nat) (v1 : Int32) (v4 : Int32) (v5 : Int32) (v6 : Int32) (v7 : Int32) (v8 : Int32) (s0 : Int32) : Option (Int32 × Mem) := ck (v7 + (0 : Int32)) 1048 (if (rd M (this + 1) (v7 + (0 : Int32)).toNatClampNeg) = v1 then (ck (v7 + (4 : Int32)) 1048 (if v8 ≤ (rd M (this + 1) (v7 + (4 : Int32)).toNatClampNeg) then (f_X5_empties_L214 k31 M this v1 v4 v5 v6) else (if s0 = (0 : Int32) then (f_X5_empties_L214 k31 M this v1 v4 v5 v6) else (ck (v7 + (4 : Int32)) 1048 (nm (wr M (this + 1) (v7 + (4 : Int32)).toNatClampNeg v8) (fun M7 => nm (v7 + (6 : Int32)) (fun x8 => ck x8 1048 (ck x8 1048 (nm (wr M7 (this + 1) x8.toNatClampNeg ((rd M7 (this + 1) x8.toNatClampNeg) + (1 : Int32))) (fun M11 => ck (4 : Int32) 1048 (ck (4 : Int32) 1048 (nm (wr M11 (this + 1) (4 : Int32).toNatClampNeg ((rd M11 (this + 1) (4 : Int32).toNatClampNeg) + (1 : Int32))) (fun M14 => nm (v5 + (1 : Int32)) (fun x15 => f_X5_empties_L214 k31 M14 this v1 v4 x15 v6)))))))))))))) else (f_X5_empties_L214 k31 M this v1 v4 v5 v6))
def f_X5_empties_L137 (k31 : Mem → Int32 → Int32 → Option (Int32 × Mem)) (M : Mem) (this : Nat) (v1 : Int32) (v4 : Int32) (v5 : Int32) (v6 : Int32) (v7 : Int32) (v8 : Int32) : Option (Int32 × Mem) := f_X5_empties_L142 k31 M this v1 v4 v5 v6 v7 v8 (1 : Int32)
def f_X5_empties_L141 (k31 : Mem → Int32 → Int32 → Option (Int32 × Mem)) (M : Mem) (this : Nat) (v1 : Int32) (v4 : Int32) (v5 : Int32) (v6 : Int32) (v7 : Int32) (v8 : Int32) : Option (Int32 × Mem) := f_X5_empties_L142 k31 M this v1 v4 v5 v6 v7 v8 (0 : Int32)
def f_X5_empties_L84 (k31 : Mem → Int32 → Int32 → Option (Int32 × Mem)) (M : Mem) (this : Nat) (v1 : Int32) (v4 : Int32) (v5 : Int32) (v6 : Int32) (v7 : Int32) (s0 : Int32) : Option (Int32 × Mem) := ck (v7 + (1 : Int32)) 1048 (nm (rd M (this + 1) (v7 + (1 : Int32)).toNatClampNeg) (fun x2 => ck (2 : Int32) 1048 (if (rd M (this + 1) (2 : Int32).toNatClampNeg) = (0 : Int32) then (f_X5_empties_L137 k31 M this v1 v4 v5 v6 v7 s0) else (bd (f_X5_firstOf M this (0 : Int32) x2) (fun x5 => if x5 = (-1 : Int32) then (f_X5_empties_L141 k31 M this v1 v4 v5 v6 v7 s0) else (bd (f_X5_may M this x2) (fun x8 => if x8 = (0 : Int32) then (bd (f_X5_leastTo M this x2) (fun x11 => if x11 = v6 then (f_X5_empties_L137 k31 M this v1 v4 v5 v6 v7 s0) else (f_X5_empties_L141 k31 M this v1 v4 v5 v6 v7 s0))) else (f_X5_empties_L141 k31 M this v1 v4 v5 v6 v7 s0))))))))
def f_X5_empties_L31 (this : Nat) (v1 : Int32) (v4 : Int32) : Nat → Mem → Int32 → Int32 → Option (Int32 × Mem)
  | 0, _, _, _ => none
  | n + 1, M, v5, v6 => ck (1 : Int32) 1048 (if (rd M (this + 1) (1 : Int32).toNatClampNeg) ≤ v6 then (some (v5, M)) else (bd (f_X5_at (0 : Int32) v6) (fun x3 => ck (x3 + (2 : Int32)) 1048 (if (v4 + (rd M (this + 1) (x3 + (2 : Int32)).toNatClampNeg)) ≤ (99999999 : Int32) then (ck (x3 + (2 : Int32)) 1048 (f_X5_empties_L84 (fun Mq q5 q6 => f_X5_empties_L31 this v1 v4 n Mq q5 q6) M this v1 v4 v5 v6 x3 (v4 + (rd M (this + 1) (x3 + (2 : Int32)).toNatClampNeg)))) else (f_X5_empties_L84 (fun Mq q5 q6 => f_X5_empties_L31 this v1 v4 n Mq q5 q6) M this v1 v4 v5 v6 x3 (99999999 : Int32))))))
def f_X5_empties_L23 (M : Mem) (this : Nat) (v1 : Int32) (s0 : Int32) : Option (Int32 × Mem) := f_X5_empties_L31 this v1 s0 1000 M (0 : Int32) (0 : Int32)
def f_X5_empties (M : Mem) (this : Nat) (v1 : Int32) : Option (Int32 × Mem) := bd (f_X5_safe M this v1) (fun x1 => bd (f_X5_firstTime M this (0 : Int32) v1) (fun x3 => if x1 ≤ x3 then (f_X5_empties_L23 M this v1 x1) else (f_X5_empties_L23 M this v1 x3)))
/-! X5_rounds -/
def f_X5_rounds_L36 (k4 : Mem → Int32 → Int32 → Option (Int32 × Mem)) (M : Mem) (this : Nat) (v1 : Int32) (v2 : Int32) : Option (Int32 × Mem) := nm (v2 + (1 : Int32)) (fun x1 => k4 M v1 x1)
def f_X5_rounds_L97 (M : Mem) (this : Nat) (s0 : Int32) : Option (Int32 × Mem) := zk s0 (some (s0, M))
def f_X5_rounds_L78 (M : Mem) (this : Nat) (v1 : Int32) : Option (Int32 × Mem) := ck (5 : Int32) 1048 (ck (5 : Int32) 1048 (nm (wr M (this + 1) (5 : Int32).toNatClampNeg ((rd M (this + 1) (5 : Int32).toNatClampNeg) + (1 : Int32))) (fun M3 => if v1 ≤ (0 : Int32) then (f_X5_rounds_L97 M3 this (0 : Int32)) else (f_X5_rounds_L97 M3 this (1 : Int32)))))
def f_X5_rounds_L44 (this : Nat) : Nat → Mem → Int32 → Int32 → Option (Int32 × Mem)
  | 0, _, _, _ => none
  | n + 1, M, v1, v2 => ck (0 : Int32) 1048 (if (rd M (this + 1) (0 : Int32).toNatClampNeg) ≤ v2 then (f_X5_rounds_L78 M this v1) else (ck (2 : Int32) 1048 (if (rd M (this + 1) (2 : Int32).toNatClampNeg) = (1 : Int32) then (f_X5_rounds_L78 M this v1) else (bd2 (f_X5_empties M this v2) (fun x6 M5 => nm (v1 + x6) (fun x8 => nm (v2 + (1 : Int32)) (fun x9 => f_X5_rounds_L44 this n M5 x8 x9)))))))
def f_X5_rounds_L42 (M : Mem) (this : Nat) (v1 : Int32) : Option (Int32 × Mem) := f_X5_rounds_L44 this 1000 M v1 (0 : Int32)
def f_X5_rounds_L4 (this : Nat) : Nat → Mem → Int32 → Int32 → Option (Int32 × Mem)
  | 0, _, _, _ => none
  | n + 1, M, v1, v2 => ck (0 : Int32) 1048 (if (rd M (this + 1) (0 : Int32).toNatClampNeg) ≤ v2 then (f_X5_rounds_L42 M this v1) else (bd (f_X5_may M this v2) (fun x3 => if x3 = (0 : Int32) then (f_X5_rounds_L36 (fun Mq q1 q2 => f_X5_rounds_L4 this n Mq q1 q2) M this v1 v2) else (bd (f_X5_firstOf M this (0 : Int32) v2) (fun x6 => bd (f_X5_works M this (0 : Int32) x6) (fun M8 => nm (v1 + (1 : Int32)) (fun x11 => f_X5_rounds_L36 (fun Mq q1 q2 => f_X5_rounds_L4 this n Mq q1 q2) M8 this x11 v2)))))))
def f_X5_rounds (M : Mem) (this : Nat) : Option (Int32 × Mem) := f_X5_rounds_L4 this 1000 M (0 : Int32) (0 : Int32)
/-! X5_leastTime -/
def f_X5_leastTime_L32 (k5 : Int32 → Int32 → Option Int32) (M : Mem) (this : Nat) (v2 : Int32) (s0 : Int32) : Option Int32 := nm (v2 + (1 : Int32)) (fun x1 => k5 s0 x1)
def f_X5_leastTime_L5 (M : Mem) (this : Nat) : Nat → Int32 → Int32 → Option Int32
  | 0, _, _ => none
  | n + 1, v1, v2 => ck (0 : Int32) 1048 (if (rd M (this + 1) (0 : Int32).toNatClampNeg) ≤ v2 then (some v1) else (bd (f_X5_firstTime M this (0 : Int32) v2) (fun x3 => if v1 ≤ x3 then (f_X5_leastTime_L32 (fun q1 q2 => f_X5_leastTime_L5 M this n q1 q2) M this v2 v1) else (f_X5_leastTime_L32 (fun q1 q2 => f_X5_leastTime_L5 M this n q1 q2) M this v2 x3))))
def f_X5_leastTime (M : Mem) (this : Nat) : Option Int32 := f_X5_leastTime_L5 M this 1000 (99999999 : Int32) (0 : Int32)
/-! X5_lets -/
def f_X5_lets_L41 (k7 : Mem → Int32 → Option (Int32 × Mem)) (M : Mem) (this : Nat) (v1 : Int32) (v2 : Int32) : Option (Int32 × Mem) := nm (v2 + (1 : Int32)) (fun x1 => k7 M x1)
def f_X5_lets_L17 (k7 : Mem → Int32 → Option (Int32 × Mem)) (this : Nat) (v1 : Int32) (v2 : Int32) : Nat → Mem → Option (Int32 × Mem)
  | 0, _ => none
  | n + 1, M => bd (f_X5_firstTime M this (0 : Int32) v2) (fun x1 => if x1 = v1 then (bd (f_X5_firstOf M this (0 : Int32) v2) (fun x4 => bd (f_X5_works M this (0 : Int32) x4) (fun M6 => f_X5_lets_L17 k7 this v1 v2 n M6))) else (f_X5_lets_L41 k7 M this v1 v2))
def f_X5_lets_L104 (k49 : Mem → Int32 → Option (Int32 × Mem)) (M : Mem) (this : Nat) (v1 : Int32) (v2 : Int32) (s0 : Int32) (s1 : Int32) : Option (Int32 × Mem) := ck s1 1048 (nm (wr M (this + 1) s1.toNatClampNeg s0) (fun M2 => nm (v2 + (1 : Int32)) (fun x3 => k49 M2 x3)))
def f_X5_lets_L49 (this : Nat) (v1 : Int32) : Nat → Mem → Int32 → Option (Int32 × Mem)
  | 0, _, _ => none
  | n + 1, M, v2 => ck (1 : Int32) 1048 (if (rd M (this + 1) (1 : Int32).toNatClampNeg) ≤ v2 then (ck (6 : Int32) 1048 (ck (6 : Int32) 1048 (nm (wr M (this + 1) (6 : Int32).toNatClampNeg ((rd M (this + 1) (6 : Int32).toNatClampNeg) + (1 : Int32))) (fun M5 => some (v1, M5))))) else (bd (f_X5_at (0 : Int32) v2) (fun x6 => bd (f_X5_at (0 : Int32) v2) (fun x8 => ck (x8 + (4 : Int32)) 1048 (if (rd M (this + 1) (x8 + (4 : Int32)).toNatClampNeg) ≤ v1 then (f_X5_lets_L104 (fun Mq q2 => f_X5_lets_L49 this v1 n Mq q2) M this v1 v2 (v1 + (1 : Int32)) (x6 + (4 : Int32))) else (bd (f_X5_at (0 : Int32) v2) (fun x12 => ck (x12 + (4 : Int32)) 1048 (f_X5_lets_L104 (fun Mq q2 => f_X5_lets_L49 this v1 n Mq q2) M this v1 v2 (rd M (this + 1) (x12 + (4 : Int32)).toNatClampNeg) (x6 + (4 : Int32))))))))))
def f_X5_lets_L47 (M : Mem) (this : Nat) (v1 : Int32) : Option (Int32 × Mem) := f_X5_lets_L49 this v1 1000 M (0 : Int32)
def f_X5_lets_L7 (this : Nat) (v1 : Int32) : Nat → Mem → Int32 → Option (Int32 × Mem)
  | 0, _, _ => none
  | n + 1, M, v2 => ck (0 : Int32) 1048 (if (rd M (this + 1) (0 : Int32).toNatClampNeg) ≤ v2 then (f_X5_lets_L47 M this v1) else (f_X5_lets_L17 (fun Mq q2 => f_X5_lets_L7 this v1 n Mq q2) this v1 v2 1000 M))
def f_X5_lets (M : Mem) (this : Nat) : Option (Int32 × Mem) := bd (f_X5_leastTime M this) (fun x1 => f_X5_lets_L7 this x1 1000 M (0 : Int32))
/-! X5_ringOf -/
def f_X5_ringOf_L24 (k2 : Mem → Int32 → Option (Int32 × Mem)) (M : Mem) (this : Nat) (v1 : Int32) (v2 : Int32) (s0 : Int32) (s1 : Int32) : Option (Int32 × Mem) := ck s1 6 (nm (wr M (this + 4) s1.toNatClampNeg s0) (fun M2 => nm (v2 + (1 : Int32)) (fun x3 => k2 M2 x3)))
def f_X5_ringOf_L127 (k33 : Mem → Int32 → Option (Int32 × Mem)) (k41 : Mem → Int32 → Option (Int32 × Mem)) (M : Mem) (this : Nat) (v1 : Int32) (v2 : Int32) (v3 : Int32) (s0 : Int32) (s1 : Int32) : Option (Int32 × Mem) := ck s1 6 (nm (wr M (this + 4) s1.toNatClampNeg s0) (fun M2 => nm (v3 + (1 : Int32)) (fun x3 => k41 M2 x3)))
def f_X5_ringOf_L134 (k33 : Mem → Int32 → Option (Int32 × Mem)) (M : Mem) (this : Nat) (v1 : Int32) (v2 : Int32) : Option (Int32 × Mem) := nm (v2 + (1 : Int32)) (fun x1 => k33 M x1)
def f_X5_ringOf_L41 (k33 : Mem → Int32 → Option (Int32 × Mem)) (this : Nat) (v1 : Int32) (v2 : Int32) : Nat → Mem → Int32 → Option (Int32 × Mem)
  | 0, _, _ => none
  | n + 1, M, v3 => ck (1 : Int32) 1048 (if (rd M (this + 1) (1 : Int32).toNatClampNeg) ≤ v3 then (f_X5_ringOf_L134 k33 M this v1 v2) else (bd (f_X5_at (0 : Int32) v3) (fun x3 => ck (x3 + (0 : Int32)) 1048 (ck (rd M (this + 1) (x3 + (0 : Int32)).toNatClampNeg) 6 (bd (f_X5_at (0 : Int32) v3) (fun x7 => ck (x7 + (2 : Int32)) 1048 (nm ((rd M (this + 4) (rd M (this + 1) (x3 + (0 : Int32)).toNatClampNeg).toNatClampNeg) + (rd M (this + 1) (x7 + (2 : Int32)).toNatClampNeg)) (fun x10 => bd (f_X5_at (0 : Int32) v3) (fun x11 => ck (x11 + (1 : Int32)) 1048 (nm (rd M (this + 1) (x11 + (1 : Int32)).toNatClampNeg) (fun x14 => ck x14 6 (if (rd M (this + 4) x14.toNatClampNeg) ≤ x10 then (ck x14 6 (f_X5_ringOf_L127 k33 (fun Mq q3 => f_X5_ringOf_L41 k33 this v1 v2 n Mq q3) M this v1 v2 v3 (rd M (this + 4) x14.toNatClampNeg) x14)) else (f_X5_ringOf_L127 k33 (fun Mq q3 => f_X5_ringOf_L41 k33 this v1 v2 n Mq q3) M this v1 v2 v3 x10 x14)))))))))))))
def f_X5_ringOf_L231 (k144 : Int32 → Int32 → Option (Int32 × Mem)) (M : Mem) (this : Nat) (v1 : Int32) (v2 : Int32) (v3 : Int32) : Option (Int32 × Mem) := nm (v3 + (1 : Int32)) (fun x1 => k144 v2 x1)
def f_X5_ringOf_L230 (k144 : Int32 → Int32 → Option (Int32 × Mem)) (M : Mem) (this : Nat) (v1 : Int32) (v3 : Int32) (s0 : Int32) : Option (Int32 × Mem) := f_X5_ringOf_L231 k144 M this v1 s0 v3
def f_X5_ringOf_L224 (k144 : Int32 → Int32 → Option (Int32 × Mem)) (M : Mem) (this : Nat) (v1 : Int32) (v3 : Int32) (v5 : Int32) : Option (Int32 × Mem) := f_X5_ringOf_L230 k144 M this v1 v3 v5
def f_X5_ringOf_L144 (M : Mem) (this : Nat) (v1 : Int32) : Nat → Int32 → Int32 → Option (Int32 × Mem)
  | 0, _, _ => none
  | n + 1, v2, v3 => ck (1 : Int32) 1048 (if (rd M (this + 1) (1 : Int32).toNatClampNeg) ≤ v3 then (some (v2, M)) else (bd (f_X5_at (0 : Int32) v3) (fun x3 => ck (x3 + (0 : Int32)) 1048 (ck (rd M (this + 1) (x3 + (0 : Int32)).toNatClampNeg) 6 (nm (rd M (this + 4) (rd M (this + 1) (x3 + (0 : Int32)).toNatClampNeg).toNatClampNeg) (fun x7 => bd (f_X5_at (0 : Int32) v3) (fun x8 => ck (x8 + (1 : Int32)) 1048 (if (rd M (this + 1) (x8 + (1 : Int32)).toNatClampNeg) = v1 then (if (99999999 : Int32) ≤ x7 then (f_X5_ringOf_L231 (fun q2 q3 => f_X5_ringOf_L144 M this v1 n q2 q3) M this v1 v2 v3) else (bd (f_X5_at (0 : Int32) v3) (fun x13 => ck (x13 + (2 : Int32)) 1048 (nm (x7 + (rd M (this + 1) (x13 + (2 : Int32)).toNatClampNeg)) (fun x16 => if v2 = (-1 : Int32) then (f_X5_ringOf_L224 (fun q2 q3 => f_X5_ringOf_L144 M this v1 n q2 q3) M this v1 v3 x16) else (if v2 ≤ x16 then (f_X5_ringOf_L230 (fun q2 q3 => f_X5_ringOf_L144 M this v1 n q2 q3) M this v1 v3 v2) else (f_X5_ringOf_L224 (fun q2 q3 => f_X5_ringOf_L144 M this v1 n q2 q3) M this v1 v3 x16))))))) else (f_X5_ringOf_L231 (fun q2 q3 => f_X5_ringOf_L144 M this v1 n q2 q3) M this v1 v2 v3)))))))))
def f_X5_ringOf_L140 (M : Mem) (this : Nat) (v1 : Int32) : Option (Int32 × Mem) := f_X5_ringOf_L144 M this v1 1000 (-1 : Int32) (0 : Int32)
def f_X5_ringOf_L33 (this : Nat) (v1 : Int32) : Nat → Mem → Int32 → Option (Int32 × Mem)
  | 0, _, _ => none
  | n + 1, M, v2 => if (6 : Int32) ≤ v2 then (f_X5_ringOf_L140 M this v1) else (f_X5_ringOf_L41 (fun Mq q2 => f_X5_ringOf_L33 this v1 n Mq q2) this v1 v2 1000 M (0 : Int32))
def f_X5_ringOf_L31 (M : Mem) (this : Nat) (v1 : Int32) : Option (Int32 × Mem) := f_X5_ringOf_L33 this v1 1000 M (0 : Int32)
def f_X5_ringOf_L2 (this : Nat) (v1 : Int32) : Nat → Mem → Int32 → Option (Int32 × Mem)
  | 0, _, _ => none
  | n + 1, M, v2 => if (6 : Int32) ≤ v2 then (f_X5_ringOf_L31 M this v1) else (if v2 = v1 then (f_X5_ringOf_L24 (fun Mq q2 => f_X5_ringOf_L2 this v1 n Mq q2) M this v1 v2 (0 : Int32) v2) else (f_X5_ringOf_L24 (fun Mq q2 => f_X5_ringOf_L2 this v1 n Mq q2) M this v1 v2 (99999999 : Int32) v2))
def f_X5_ringOf (M : Mem) (this : Nat) (v1 : Int32) : Option (Int32 × Mem) := f_X5_ringOf_L2 this v1 1000 M (0 : Int32)
/-! X5_isRing -/
def f_X5_isRing_L31 (k4 : Mem → Int32 → Int32 → Option (Int32 × Mem)) (M : Mem) (this : Nat) (v2 : Int32) (s0 : Int32) : Option (Int32 × Mem) := nm (v2 + (1 : Int32)) (fun x1 => k4 M s0 x1)
def f_X5_isRing_L26 (k4 : Mem → Int32 → Int32 → Option (Int32 × Mem)) (M : Mem) (this : Nat) (v2 : Int32) : Option (Int32 × Mem) := f_X5_isRing_L31 k4 M this v2 (1 : Int32)
def f_X5_isRing_L4 (this : Nat) : Nat → Mem → Int32 → Int32 → Option (Int32 × Mem)
  | 0, _, _, _ => none
  | n + 1, M, v1, v2 => ck (0 : Int32) 1048 (if (rd M (this + 1) (0 : Int32).toNatClampNeg) ≤ v2 then (zk v1 (some (v1, M))) else (if v1 = (0 : Int32) then (bd2 (f_X5_ringOf M this v2) (fun x6 M5 => if x6 = (0 : Int32) then (f_X5_isRing_L26 (fun Mq q1 q2 => f_X5_isRing_L4 this n Mq q1 q2) M5 this v2) else (f_X5_isRing_L31 (fun Mq q1 q2 => f_X5_isRing_L4 this n Mq q1 q2) M5 this v2 (0 : Int32)))) else (f_X5_isRing_L26 (fun Mq q1 q2 => f_X5_isRing_L4 this n Mq q1 q2) M this v2)))
def f_X5_isRing (M : Mem) (this : Nat) : Option (Int32 × Mem) := f_X5_isRing_L4 this 1000 M (0 : Int32) (0 : Int32)
/-! X5_canRun -/
def f_X5_canRun_L31 (M : Mem) (this : Nat) (s0 : Int32) : Option (Int32 × Mem) := zk s0 (some (s0, M))
def f_X5_canRun_L26 (M : Mem) (this : Nat) : Option (Int32 × Mem) := f_X5_canRun_L31 M this (1 : Int32)
def f_X5_canRun_L30 (M : Mem) (this : Nat) : Option (Int32 × Mem) := f_X5_canRun_L31 M this (0 : Int32)
def f_X5_canRun (M : Mem) (this : Nat) : Option (Int32 × Mem) := ck (0 : Int32) 1048 (if (rd M (this + 1) (0 : Int32).toNatClampNeg) ≤ (0 : Int32) then (f_X5_canRun_L30 M this) else (ck (2 : Int32) 1048 (if (rd M (this + 1) (2 : Int32).toNatClampNeg) = (1 : Int32) then (f_X5_canRun_L26 M this) else (bd2 (f_X5_isRing M this) (fun x6 M5 => if x6 = (0 : Int32) then (f_X5_canRun_L26 M5 this) else (f_X5_canRun_L30 M5 this))))))
/-! X5_run -/
def f_X5_run_L68 (M : Mem) (this : Nat) (v2 : Int32) : Option (Int32 × Mem) := ck (3 : Int32) 1048 (some (((rd M (this + 1) (3 : Int32).toNatClampNeg) - v2), M))
def f_X5_run_L37 (this : Nat) (v1 : Int32) (v2 : Int32) : Nat → Mem → Int32 → Int32 → Option (Int32 × Mem)
  | 0, _, _, _ => none
  | n + 1, M, v3, v4 => if v1 ≤ v4 then (f_X5_run_L68 M this v2) else (if v3 = (0 : Int32) then (f_X5_run_L68 M this v2) else (ck (9 : Int32) 1048 (if (rd M (this + 1) (9 : Int32).toNatClampNeg) ≤ (0 : Int32) then (f_X5_run_L68 M this v2) else (bd2 (f_X5_rounds M this) (fun x6 M5 => nm (v4 + (1 : Int32)) (fun x8 => f_X5_run_L37 this v1 v2 n M5 x6 x8))))))
def f_X5_run (M : Mem) (this : Nat) (v1 : Int32) : Option (Int32 × Mem) := bd (f_X5_in (v1.toInt64) (1 : Int64) (40 : Int64)) (fun x1 => if x1 = (0 : Int32) then (some ((-1000000002 : Int32), M)) else (bd2 (f_X5_canRun M this) (fun x5 M4 => if x5 = (0 : Int32) then (some ((-1000000003 : Int32), M4)) else (ck (3 : Int32) 1048 (nm (rd M4 (this + 1) (3 : Int32).toNatClampNeg) (fun x9 => f_X5_run_L37 this v1 x9 1000 M4 (1 : Int32) (0 : Int32)))))))
/-! X5_allMay -/
def f_X5_allMay_L30 (k4 : Int32 → Int32 → Option Int32) (M : Mem) (this : Nat) (v2 : Int32) (s0 : Int32) (s1 : Int32) : Option Int32 := nm (s1 ||| s0) (fun x1 => nm (v2 + (1 : Int32)) (fun x2 => k4 x1 x2))
def f_X5_allMay_L4 (M : Mem) (this : Nat) : Nat → Int32 → Int32 → Option Int32
  | 0, _, _ => none
  | n + 1, v1, v2 => ck (0 : Int32) 1048 (if (rd M (this + 1) (0 : Int32).toNatClampNeg) ≤ v2 then (some v1) else (bd (f_X5_may M this v2) (fun x3 => if x3 = (0 : Int32) then (f_X5_allMay_L30 (fun q1 q2 => f_X5_allMay_L4 M this n q1 q2) M this v2 (0 : Int32) v1) else (f_X5_allMay_L30 (fun q1 q2 => f_X5_allMay_L4 M this n q1 q2) M this v2 ((1 : Int32) <<< (v2 &&& 31)) v1))))
def f_X5_allMay (M : Mem) (this : Nat) : Option Int32 := f_X5_allMay_L4 M this 1000 (0 : Int32) (0 : Int32)
/-! X5_letGo -/
def f_X5_letGo_L26 (M : Mem) (this : Nat) (s0 : Int32) : Option (Int32 × Mem) := some (s0, M)
def f_X5_letGo_L17 (M : Mem) (this : Nat) : Option (Int32 × Mem) := f_X5_letGo_L26 M this (-1000000003 : Int32)
def f_X5_letGo (M : Mem) (this : Nat) : Option (Int32 × Mem) := ck (9 : Int32) 1048 (if (rd M (this + 1) (9 : Int32).toNatClampNeg) = (0 : Int32) then (f_X5_letGo_L17 M this) else (bd (f_X5_allMay M this) (fun x3 => if x3 = (0 : Int32) then (bd2 (f_X5_lets M this) (fun x7 M6 => f_X5_letGo_L26 M6 this x7)) else (f_X5_letGo_L17 M this))))
/-! X5_finish -/
def f_X5_finish_L70 (k21 : Mem → Int32 → Option (Int32 × Mem)) (M : Mem) (this : Nat) (v1 : Int32) (v2 : Int32) : Option (Int32 × Mem) := k21 M v2
def f_X5_finish_L68 (k21 : Mem → Int32 → Option (Int32 × Mem)) (M : Mem) (this : Nat) (v1 : Int32) (s0 : Int32) (s1 : Int32) : Option (Int32 × Mem) := nm (s1 - s0) (fun x1 => f_X5_finish_L70 k21 M this v1 x1)
def f_X5_finish_L73 (M : Mem) (this : Nat) (v1 : Int32) : Option (Int32 × Mem) := ck (3 : Int32) 1048 (some (((rd M (this + 1) (3 : Int32).toNatClampNeg) - v1), M))
def f_X5_finish_L21 (this : Nat) (v1 : Int32) : Nat → Mem → Int32 → Option (Int32 × Mem)
  | 0, _, _ => none
  | n + 1, M, v2 => if v2 ≤ (0 : Int32) then (f_X5_finish_L73 M this v1) else (ck (9 : Int32) 1048 (if (rd M (this + 1) (9 : Int32).toNatClampNeg) ≤ (0 : Int32) then (f_X5_finish_L73 M this v1) else (bd2 (f_X5_rounds M this) (fun x5 M4 => nm (v2 + (-1 : Int32)) (fun x7 => if x5 = (0 : Int32) then (if x7 ≤ (0 : Int32) then (f_X5_finish_L70 (fun Mq q2 => f_X5_finish_L21 this v1 n Mq q2) M4 this v1 x7) else (bd2 (f_X5_lets M4 this) (fun x11 M10 => if (0 : Int32) ≤ x11 then (f_X5_finish_L68 (fun Mq q2 => f_X5_finish_L21 this v1 n Mq q2) M10 this v1 (1 : Int32) x7) else (f_X5_finish_L68 (fun Mq q2 => f_X5_finish_L21 this v1 n Mq q2) M10 this v1 (0 : Int32) x7)))) else (f_X5_finish_L70 (fun Mq q2 => f_X5_finish_L21 this v1 n Mq q2) M4 this v1 x7))))))
def f_X5_finish (M : Mem) (this : Nat) : Option (Int32 × Mem) := bd2 (f_X5_canRun M this) (fun x2 M1 => if x2 = (0 : Int32) then (some ((-1000000003 : Int32), M1)) else (ck (3 : Int32) 1048 (nm (rd M1 (this + 1) (3 : Int32).toNatClampNeg) (fun x6 => f_X5_finish_L21 this x6 1000 M1 (400 : Int32)))))
/-! X5_told -/
def f_X5_told_L153 (M : Mem) (this : Nat) (s0 : Int32) : Option (Int32 × Mem) := some (s0, M)
def f_X5_told (M : Mem) (this : Nat) (v1 : Int32) : Option (Int32 × Mem) := if v1 = (0 : Int32) then (ck (0 : Int32) 1048 (some ((rd M (this + 1) (0 : Int32).toNatClampNeg), M))) else (if v1 = (1 : Int32) then (ck (1 : Int32) 1048 (some ((rd M (this + 1) (1 : Int32).toNatClampNeg), M))) else (if v1 = (2 : Int32) then (ck (2 : Int32) 1048 (some ((rd M (this + 1) (2 : Int32).toNatClampNeg), M))) else (if v1 = (3 : Int32) then (ck (9 : Int32) 1048 (some ((rd M (this + 1) (9 : Int32).toNatClampNeg), M))) else (if v1 = (4 : Int32) then (ck (3 : Int32) 1048 (some ((rd M (this + 1) (3 : Int32).toNatClampNeg), M))) else (if v1 = (5 : Int32) then (ck (4 : Int32) 1048 (some ((rd M (this + 1) (4 : Int32).toNatClampNeg), M))) else (if v1 = (6 : Int32) then (ck (5 : Int32) 1048 (some ((rd M (this + 1) (5 : Int32).toNatClampNeg), M))) else (if v1 = (7 : Int32) then (ck (6 : Int32) 1048 (some ((rd M (this + 1) (6 : Int32).toNatClampNeg), M))) else (if v1 = (8 : Int32) then (bd (f_X5_allMay M this) (fun x18 => some (x18, M))) else (if v1 = (9 : Int32) then (bd (f_X5_leastTime M this) (fun x21 => some (x21, M))) else (if v1 = (10 : Int32) then (some ((rd M this 2), M)) else (if v1 = (11 : Int32) then (bd2 (f_X5_isRing M this) (fun x26 M25 => if x26 = (0 : Int32) then (f_X5_told_L153 M25 this (0 : Int32)) else (f_X5_told_L153 M25 this (1 : Int32)))) else (if v1 = (12 : Int32) then (ck (7 : Int32) 1048 (some ((rd M (this + 1) (7 : Int32).toNatClampNeg), M))) else (some ((-1000000002 : Int32), M))))))))))))))
/-! X5_waitsBy -/
def f_X5_waitsBy_L27 (M : Mem) (this : Nat) (s0 : Int32) : Option Int32 := some s0
def f_X5_waitsBy_L18 (M : Mem) (this : Nat) : Option Int32 := f_X5_waitsBy_L27 M this (-1 : Int32)
def f_X5_waitsBy (M : Mem) (this : Nat) (v1 : Int32) : Option Int32 := bd (f_X5_firstOf M this (0 : Int32) v1) (fun x1 => if x1 = (-1 : Int32) then (f_X5_waitsBy_L18 M this) else (bd (f_X5_may M this v1) (fun x4 => if x4 = (0 : Int32) then (bd (f_X5_leastTo M this v1) (fun x7 => f_X5_waitsBy_L27 M this x7)) else (f_X5_waitsBy_L18 M this))))
/-! X5_waysTo -/
def f_X5_waysTo_L36 (k4 : Int32 → Int32 → Option Int32) (M : Mem) (this : Nat) (v1 : Int32) (v3 : Int32) (s0 : Int32) (s1 : Int32) : Option Int32 := nm (s1 + s0) (fun x1 => nm (v3 + (1 : Int32)) (fun x2 => k4 x1 x2))
def f_X5_waysTo_L4 (M : Mem) (this : Nat) (v1 : Int32) : Nat → Int32 → Int32 → Option Int32
  | 0, _, _ => none
  | n + 1, v2, v3 => ck (1 : Int32) 1048 (if (rd M (this + 1) (1 : Int32).toNatClampNeg) ≤ v3 then (some v2) else (bd (f_X5_at (0 : Int32) v3) (fun x3 => ck (x3 + (1 : Int32)) 1048 (if (rd M (this + 1) (x3 + (1 : Int32)).toNatClampNeg) = v1 then (f_X5_waysTo_L36 (fun q2 q3 => f_X5_waysTo_L4 M this v1 n q2 q3) M this v1 v3 (1 : Int32) v2) else (f_X5_waysTo_L36 (fun q2 q3 => f_X5_waysTo_L4 M this v1 n q2 q3) M this v1 v3 (0 : Int32) v2)))))
def f_X5_waysTo (M : Mem) (this : Nat) (v1 : Int32) : Option Int32 := f_X5_waysTo_L4 M this v1 1000 (0 : Int32) (0 : Int32)
/-! X5_firstValue -/
def f_X5_firstValue_L24 (M : Mem) (this : Nat) (s0 : Int32) : Option Int32 := some s0
def f_X5_firstValue (M : Mem) (this : Nat) (v1 : Int32) : Option Int32 := bd (f_X5_firstOf M this (0 : Int32) v1) (fun x1 => if x1 = (-1 : Int32) then (f_X5_firstValue_L24 M this (-1 : Int32)) else (ck (x1 + (3 : Int32)) 1048 (f_X5_firstValue_L24 M this (rd M (this + 1) (x1 + (3 : Int32)).toNatClampNeg))))
/-! X5_part -/
def f_X5_part_L141 (M : Mem) (this : Nat) (s0 : Int32) : Option Int32 := some s0
def f_X5_part (M : Mem) (this : Nat) (v1 : Int32) (v2 : Int32) : Option Int32 := bd (f_X5_isPart M this v1) (fun x1 => if x1 = (0 : Int32) then (some (-1000000001 : Int32)) else (if v2 = (0 : Int32) then (ck ((10 : Int32) + v1) 1048 (some (rd M (this + 1) ((10 : Int32) + v1).toNatClampNeg))) else (if v2 = (1 : Int32) then (ck ((16 : Int32) + v1) 1048 (some (rd M (this + 1) ((16 : Int32) + v1).toNatClampNeg))) else (if v2 = (2 : Int32) then (ck ((22 : Int32) + v1) 1048 (some (rd M (this + 1) ((22 : Int32) + v1).toNatClampNeg))) else (if v2 = (3 : Int32) then (bd (f_X5_safe M this v1) (fun x11 => some x11)) else (if v2 = (4 : Int32) then (bd (f_X5_waitFor M this (0 : Int32) v1) (fun x14 => some x14)) else (if v2 = (5 : Int32) then (bd (f_X5_firstTime M this (0 : Int32) v1) (fun x17 => some x17)) else (if v2 = (6 : Int32) then (bd (f_X5_firstValue M this v1) (fun x20 => some x20)) else (if v2 = (7 : Int32) then (bd (f_X5_may M this v1) (fun x23 => if x23 = (0 : Int32) then (f_X5_part_L141 M this (0 : Int32)) else (f_X5_part_L141 M this (1 : Int32)))) else (if v2 = (8 : Int32) then (bd (f_X5_waitsBy M this v1) (fun x27 => some x27)) else (if v2 = (9 : Int32) then (bd (f_X5_outOf M this (0 : Int32) v1) (fun x30 => some x30)) else (if v2 = (10 : Int32) then (bd (f_X5_waysTo M this v1) (fun x33 => some x33)) else (some (-1000000002 : Int32))))))))))))))
/-! X5_channelOf -/
def f_X5_channelOf_L40 (M : Mem) (this : Nat) (s0 : Int32) : Option Int32 := some s0
def f_X5_channelOf (M : Mem) (this : Nat) (v1 : Int32) (v2 : Int32) : Option Int32 := bd (f_X5_isChannel M this v1) (fun x1 => if x1 = (0 : Int32) then (some (-1000000001 : Int32)) else (bd (f_X5_in (v2.toInt64) (0 : Int64) (6 : Int64)) (fun x4 => if x4 = (0 : Int32) then (f_X5_channelOf_L40 M this (-1000000002 : Int32)) else (bd (f_X5_at (0 : Int32) v1) (fun x7 => ck (x7 + v2) 1048 (f_X5_channelOf_L40 M this (rd M (this + 1) (x7 + v2).toNatClampNeg)))))))
/-! X5_between -/
def f_X5_between_L32 (M : Mem) (this : Nat) (s0 : Int32) : Option Int32 := some s0
def f_X5_between_L30 (M : Mem) (this : Nat) : Option Int32 := f_X5_between_L32 M this (-1000000001 : Int32)
def f_X5_between (M : Mem) (this : Nat) (v1 : Int32) (v2 : Int32) : Option Int32 := bd (f_X5_isPart M this v1) (fun x1 => if x1 = (0 : Int32) then (f_X5_between_L30 M this) else (bd (f_X5_isPart M this v2) (fun x4 => if x4 = (0 : Int32) then (f_X5_between_L30 M this) else (if v1 = v2 then (f_X5_between_L30 M this) else (bd (f_X5_wayOf M this v1 v2) (fun x8 => f_X5_between_L32 M this x8))))))
/-! X5_record -/
def f_X5_record_L16 (M : Mem) (this : Nat) : Option Int32 := some (-1000000002 : Int32)
def f_X5_record_L41 (M : Mem) (this : Nat) (s0 : Int32) : Option Int32 := some s0
def f_X5_record (M : Mem) (this : Nat) (v1 : Int32) (v2 : Int32) : Option Int32 := bd (f_X5_in (v2.toInt64) (0 : Int64) (3 : Int64)) (fun x1 => if x1 = (0 : Int32) then (f_X5_record_L16 M this) else (if (0 : Int32) ≤ v1 then (if (rd M this 2) ≤ v1 then (f_X5_record_L41 M this (-1 : Int32)) else (ck (((4 : Int32) * v1) + v2) 800 (f_X5_record_L41 M this (rd M (this + 3) (((4 : Int32) * v1) + v2).toNatClampNeg)))) else (f_X5_record_L16 M this)))
/-! X5_ring -/
def f_X5_ring_L18 (M : Mem) (this : Nat) (s0 : Int32) : Option (Int32 × Mem) := some (s0, M)
def f_X5_ring (M : Mem) (this : Nat) (v1 : Int32) : Option (Int32 × Mem) := bd (f_X5_isPart M this v1) (fun x1 => if x1 = (0 : Int32) then (f_X5_ring_L18 M this (-1000000001 : Int32)) else (bd2 (f_X5_ringOf M this v1) (fun x5 M4 => f_X5_ring_L18 M4 this x5)))
/-! X5_waits -/
def f_X5_waits_L87 (k18 : Int32 → Int32 → Int32 → Option Int32) (M : Mem) (this : Nat) (v3 : Int32) (v4 : Int32) (s0 : Int32) (s1 : Int32) : Option Int32 := nm (s1 ||| s0) (fun x1 => k18 x1 v3 v4)
def f_X5_waits_L72 (k18 : Int32 → Int32 → Int32 → Option Int32) (M : Mem) (this : Nat) (v2 : Int32) (v3 : Int32) (s0 : Int32) : Option Int32 := if s0 = (0 : Int32) then (f_X5_waits_L87 k18 M this v3 s0 (0 : Int32) v2) else (f_X5_waits_L87 k18 M this v3 s0 ((1 : Int32) <<< (v3 &&& 31)) v2)
def f_X5_waits_L71 (k18 : Int32 → Int32 → Int32 → Option Int32) (M : Mem) (this : Nat) (v2 : Int32) (v3 : Int32) : Option Int32 := f_X5_waits_L72 k18 M this v2 v3 (0 : Int32)
def f_X5_waits_L53 (k18 : Int32 → Int32 → Int32 → Option Int32) (M : Mem) (this : Nat) (v2 : Int32) (s0 : Int32) : Option Int32 := if s0 = (-1 : Int32) then (f_X5_waits_L71 k18 M this v2 s0) else (bd (f_X5_has v2 s0) (fun x2 => if x2 = (0 : Int32) then (f_X5_waits_L72 k18 M this v2 s0 (1 : Int32)) else (f_X5_waits_L71 k18 M this v2 s0)))
def f_X5_waits_L18 (M : Mem) (this : Nat) : Nat → Int32 → Int32 → Int32 → Option Int32
  | 0, _, _, _ => none
  | n + 1, v2, v3, v4 => if v4 = (0 : Int32) then (some v2) else (bd (f_X5_waitsBy M this v3) (fun x2 => if x2 = (-1 : Int32) then (f_X5_waits_L53 (fun q2 q3 q4 => f_X5_waits_L18 M this n q2 q3 q4) M this v2 (-1 : Int32)) else (bd (f_X5_at (0 : Int32) x2) (fun x5 => ck (x5 + (0 : Int32)) 1048 (f_X5_waits_L53 (fun q2 q3 q4 => f_X5_waits_L18 M this n q2 q3 q4) M this v2 (rd M (this + 1) (x5 + (0 : Int32)).toNatClampNeg))))))
def f_X5_waits (M : Mem) (this : Nat) (v1 : Int32) : Option Int32 := bd (f_X5_isPart M this v1) (fun x1 => if x1 = (0 : Int32) then (some (-1000000001 : Int32)) else (f_X5_waits_L18 M this 1000 (0 : Int32) v1 (1 : Int32)))
/-! X5_inOrder -/
def f_X5_inOrder_L119 (k34 : Mem → Int32 → Option (Int32 × Mem)) (k62 : Int32 → Int32 → Int32 → Option (Int32 × Mem)) (M : Mem) (this : Nat) (v1 : Int32) (v2 : Int32) (v3 : Int32) (v4 : Int32) (v5 : Int32) (v6 : Int32) : Option (Int32 × Mem) := nm (v6 + (1 : Int32)) (fun x1 => k62 v4 v5 x1)
def f_X5_inOrder_L125 (k34 : Mem → Int32 → Option (Int32 × Mem)) (M : Mem) (this : Nat) (v1 : Int32) (v2 : Int32) (v3 : Int32) (v4 : Int32) : Option (Int32 × Mem) := bd (f_X5_works M this (262 : Int32) v4) (fun M1 => nm (v3 + (1 : Int32)) (fun x4 => k34 M1 x4))
def f_X5_inOrder_L62 (k34 : Mem → Int32 → Option (Int32 × Mem)) (M : Mem) (this : Nat) (v1 : Int32) (v2 : Int32) (v3 : Int32) : Nat → Int32 → Int32 → Int32 → Option (Int32 × Mem)
  | 0, _, _, _ => none
  | n + 1, v4, v5, v6 => ck (0 : Int32) 1048 (if (rd M (this + 1) (0 : Int32).toNatClampNeg) ≤ v6 then (f_X5_inOrder_L125 k34 M this v1 v2 v3 v4) else (bd (f_X5_firstOf M this (262 : Int32) v6) (fun x3 => if x3 = (-1 : Int32) then (f_X5_inOrder_L119 k34 (fun q4 q5 q6 => f_X5_inOrder_L62 k34 M this v1 v2 v3 n q4 q5 q6) M this v1 v2 v3 v4 v5 v6) else (ck (x3 + (1 : Int32)) 1048 (if v5 ≤ (rd M (this + 1) (x3 + (1 : Int32)).toNatClampNeg) then (f_X5_inOrder_L119 k34 (fun q4 q5 q6 => f_X5_inOrder_L62 k34 M this v1 v2 v3 n q4 q5 q6) M this v1 v2 v3 v4 v5 v6) else (ck (x3 + (1 : Int32)) 1048 (nm (rd M (this + 1) (x3 + (1 : Int32)).toNatClampNeg) (fun x9 => f_X5_inOrder_L119 k34 (fun q4 q5 q6 => f_X5_inOrder_L62 k34 M this v1 v2 v3 n q4 q5 q6) M this v1 v2 v3 x3 x9 v6))))))))
def f_X5_inOrder_L158 (M : Mem) (this : Nat) (v1 : Int32) (s0 : Int32) (s1 : Int32) : Option (Int32 × Mem) := ck ((s1 + s0) + v1) 1048 (some ((rd M (this + 1) ((s1 + s0) + v1).toNatClampNeg), M))
def f_X5_inOrder_L140 (M : Mem) (this : Nat) (v1 : Int32) (v2 : Int32) : Option (Int32 × Mem) := if v2 = (0 : Int32) then (f_X5_inOrder_L158 M this v1 (10 : Int32) (262 : Int32)) else (f_X5_inOrder_L158 M this v1 (16 : Int32) (262 : Int32))
def f_X5_inOrder_L34 (this : Nat) (v1 : Int32) (v2 : Int32) : Nat → Mem → Int32 → Option (Int32 × Mem)
  | 0, _, _ => none
  | n + 1, M, v3 => if (300 : Int32) ≤ v3 then (f_X5_inOrder_L140 M this v1 v2) else (ck (271 : Int32) 1048 (if (rd M (this + 1) (271 : Int32).toNatClampNeg) ≤ (0 : Int32) then (f_X5_inOrder_L140 M this v1 v2) else (f_X5_inOrder_L62 (fun Mq q3 => f_X5_inOrder_L34 this v1 v2 n Mq q3) M this v1 v2 v3 1000 (-1 : Int32) (99999999 : Int32) (0 : Int32))))
def f_X5_inOrder (M : Mem) (this : Nat) (v1 : Int32) (v2 : Int32) : Option (Int32 × Mem) := bd (f_X5_isPart M this v1) (fun x1 => if x1 = (0 : Int32) then (some ((-1000000001 : Int32), M)) else (bd (f_X5_in (v2.toInt64) (0 : Int64) (1 : Int64)) (fun x4 => if x4 = (0 : Int32) then (some ((-1000000002 : Int32), M)) else (bd (f_X5_copy M this (0 : Int32) (262 : Int32)) (fun M7 => f_X5_inOrder_L34 this v1 v2 1000 M7 (0 : Int32))))))
/-! X5_keep -/
def f_X5_keep (M : Mem) (this : Nat) (v1 : Int32) : Option (Int32 × Mem) := bd (f_X5_in (v1.toInt64) (0 : Int64) (1 : Int64)) (fun x1 => if x1 = (0 : Int32) then (some ((-1000000001 : Int32), M)) else (bd (f_X5_copy M this (0 : Int32) ((524 : Int32) + ((262 : Int32) * v1))) (fun M4 => ck v1 2 (nm (wr M4 (this + 2) v1.toNatClampNeg (1 : Int32)) (fun M8 => some ((1 : Int32), M8))))))
/-! X5_goBack -/
def f_X5_goBack (M : Mem) (this : Nat) (v1 : Int32) : Option (Int32 × Mem) := bd (f_X5_in (v1.toInt64) (0 : Int64) (1 : Int64)) (fun x1 => if x1 = (0 : Int32) then (some ((-1000000001 : Int32), M)) else (ck v1 2 (if (rd M (this + 2) v1.toNatClampNeg) = (0 : Int32) then (some ((-1000000003 : Int32), M)) else (bd (f_X5_copy M this ((524 : Int32) + ((262 : Int32) * v1)) (0 : Int32)) (fun M6 => some ((1 : Int32), M6))))))
end
section
/-! X0_add -/
set_option maxHeartbeats 4000000 in
set_option maxRecDepth 100000 in
theorem c_X0_add (l : Launch) (dC : Nat → ClassId) (dI : Nat → Nat → Nat) (cy : Nat → ClassId) (a : Nat → Nat) (ha : injU a) (this : Nat) (hT : K0 this) (M : Mem) (v1 : Int32) (v2 : Int32) (v3 : Int32) (v4 : Int32) {o : (Int32 × Mem)} (hf : f_X0_add M this v1 v2 v3 v4 = some o) : Met l yX0_add (wsU yX0_add cX0_add 6 (some .int)) ({ frames := 0, cells := 0, slots := 0, locals := 0 } : Room) (PU dC dI cy a [.ref (a this), .int v1, .int v2, .int v3, .int v4] M) (QUi dC dI cy a o.1 o.2) 0 0 (AU a) := by
  refine mw_met (by decide) ha (Nat.le_of_ble_eq_true rfl) ?_
  intro p e s m below meth c ls X hG hl
  have hl : lv_has ls 6 [(0, .ref (a this)), (1, .int v1), (2, .int v2), (3, .int v3), (4, .int v4)] := hl
  have X : XU dC dI cy a p s m c [.ref (a this), .int v1, .int v2, .int v3, .int v4].toArray meth cX0_add 6 RX0 (some .int) := X
  have hx := X.1.1
  have hb := X.1.2.1
  have hown := X.1.2.2.2.1
  have hts := X.1.2.2.2.2
  rw [f_X0_add] at hf
  refine lv_aload_n hx hb dX0_add_0 rfl (lv_at hl 0 rfl) ?_
  refine gf_X0_33 X hG hT dX0_add_1 ?_
  refine lv_bipush (v := 12) hx hb dX0_add_4 (by decide) ?_
  refine lv_icmp_lt (tgt := 11) hx hb dX0_add_6 (by decide) (fun c1 => ?_) (fun c1 => ?_)
  · have hf := itep c1 hf
    refine lv_aload_n hx hb dX0_add_11 rfl (lv_at hl 0 rfl) ?_
    refine gf_X0_33 X hG hT dX0_add_12 ?_
    refine lv_topi (fun x2 ex2 => ?_)
    have hf := nm_of ex2 hf
    refine lv_istore (lv' := [(5, .int x2), (0, .ref (a this)), (1, .int v1), (2, .int v2), (3, .int v3), (4, .int v4)]) hx hb dX0_add_15 hl (by decide) rfl (fun ls hl => ?_)
    refine lv_aload_n hx hb dX0_add_17 rfl (lv_at hl 1 rfl) ?_
    refine gf_X0_9 X hG hT dX0_add_18 ?_
    refine lv_iload hx hb dX0_add_21 (lv_at hl 0 rfl) ?_
    refine lv_iload_n hx hb dX0_add_23 rfl (lv_at hl 2 rfl) ?_
    obtain ⟨hi3, hf⟩ := ck_some hf
    refine mw_iast X hG hT.2.1 hi3 dX0_add_24 (fun M4 H locs eM4 hG => ?_)
    have hf := nm_of eM4 hf
    refine lv_aload_n hx hb dX0_add_25 rfl (lv_at hl 1 rfl) ?_
    refine gf_X0_15 X hG hT dX0_add_26 ?_
    refine lv_iload hx hb dX0_add_29 (lv_at hl 0 rfl) ?_
    refine lv_iload_n hx hb dX0_add_31 rfl (lv_at hl 3 rfl) ?_
    obtain ⟨hi5, hf⟩ := ck_some hf
    refine mw_iast X hG hT.2.2.1 hi5 dX0_add_32 (fun M6 H locs eM6 hG => ?_)
    have hf := nm_of eM6 hf
    refine lv_aload_n hx hb dX0_add_33 rfl (lv_at hl 1 rfl) ?_
    refine gf_X0_18 X hG hT dX0_add_34 ?_
    refine lv_iload hx hb dX0_add_37 (lv_at hl 0 rfl) ?_
    refine lv_iload_n hx hb dX0_add_39 rfl (lv_at hl 4 rfl) ?_
    obtain ⟨hi7, hf⟩ := ck_some hf
    refine mw_iast X hG hT.2.2.2.1 hi7 dX0_add_40 (fun M8 H locs eM8 hG => ?_)
    have hf := nm_of eM8 hf
    refine lv_aload_n hx hb dX0_add_41 rfl (lv_at hl 1 rfl) ?_
    refine gf_X0_21 X hG hT dX0_add_42 ?_
    refine lv_iload hx hb dX0_add_45 (lv_at hl 0 rfl) ?_
    refine lv_iload hx hb dX0_add_47 (lv_at hl 5 rfl) ?_
    obtain ⟨hi9, hf⟩ := ck_some hf
    refine mw_iast X hG hT.2.2.2.2.1 hi9 dX0_add_49 (fun M10 H locs eM10 hG => ?_)
    have hf := nm_of eM10 hf
    refine lv_aload_n hx hb dX0_add_50 rfl (lv_at hl 1 rfl) ?_
    refine gf_X0_24 X hG hT dX0_add_51 ?_
    refine lv_iload hx hb dX0_add_54 (lv_at hl 0 rfl) ?_
    refine lv_iconst (v := 0) hx hb dX0_add_56 (by decide) ?_
    obtain ⟨hi11, hf⟩ := ck_some hf
    refine mw_iast X hG hT.2.2.2.2.2.1 hi11 dX0_add_57 (fun M12 H locs eM12 hG => ?_)
    have hf := nm_of eM12 hf
    refine lv_aload_n hx hb dX0_add_58 rfl (lv_at hl 1 rfl) ?_
    refine gf_X0_27 X hG hT dX0_add_59 ?_
    refine lv_iload hx hb dX0_add_62 (lv_at hl 0 rfl) ?_
    refine lv_iconst (v := 0) hx hb dX0_add_64 (by decide) ?_
    obtain ⟨hi13, hf⟩ := ck_some hf
    refine mw_iast X hG hT.2.2.2.2.2.2.1 hi13 dX0_add_65 (fun M14 H locs eM14 hG => ?_)
    have hf := nm_of eM14 hf
    refine lv_aload_n hx hb dX0_add_66 rfl (lv_at hl 1 rfl) ?_
    refine gf_X0_30 X hG hT dX0_add_67 ?_
    refine lv_iload hx hb dX0_add_70 (lv_at hl 0 rfl) ?_
    refine lv_iconst (v := 0) hx hb dX0_add_72 (by decide) ?_
    obtain ⟨hi15, hf⟩ := ck_some hf
    refine mw_iast X hG hT.2.2.2.2.2.2.2 hi15 dX0_add_73 (fun M16 H locs eM16 hG => ?_)
    have hf := nm_of eM16 hf
    refine lv_aload_n hx hb dX0_add_74 rfl (lv_at hl 1 rfl) ?_
    refine lv_dup hx hb dX0_add_75 rfl ?_
    refine gf_X0_33 X hG hT dX0_add_76 ?_
    refine lv_iconst (v := 1) hx hb dX0_add_79 (by decide) ?_
    refine lv_iadd hx hb dX0_add_80 ?_
    refine pf_X0_33 X hG hT dX0_add_81 (fun M17 H locs eM17 hG => ?_)
    have hf := nm_of eM17 hf
    refine lv_iload hx hb dX0_add_84 (lv_at hl 0 rfl) ?_
    obtain rfl := Option.some.inj hf
    exact mw_iret X hG dX0_add_86
  · have hf := iten c1 hf
    refine lv_iconst (v := -1) hx hb dX0_add_9 (by decide) ?_
    obtain rfl := Option.some.inj hf
    exact mw_iret X hG dX0_add_10
/-! X0_copyFrom -/
set_option maxHeartbeats 4000000 in
set_option maxRecDepth 100000 in
theorem c_X0_copyFrom (l : Launch) (dC : Nat → ClassId) (dI : Nat → Nat → Nat) (cy : Nat → ClassId) (a : Nat → Nat) (ha : injU a) (this : Nat) (hT : K0 this) (M : Mem) (r1 : Nat) (h1 : K0 r1) {o : Mem} (hf : f_X0_copyFrom M this r1 = some o) : Met l yX0_copyFrom (wsU yX0_copyFrom cX0_copyFrom 2 none) ({ frames := 1, cells := 0, slots := 0, locals := 40 } : Room) (PU dC dI cy a [.ref (a this), .ref (a r1)] M) (QUv dC dI cy a o) 0 0 (AU a) := by
  refine mw_met (by decide) ha (Nat.le_of_ble_eq_true rfl) ?_
  intro p e s m below meth c ls X hG hl
  have hl : lv_has ls 2 [(0, .ref (a this)), (1, .ref (a r1))] := hl
  have X : XU dC dI cy a p s m c [.ref (a this), .ref (a r1)].toArray meth cX0_copyFrom 2 RX0 none := X
  have hx := X.1.1
  have hb := X.1.2.1
  have hown := X.1.2.2.2.1
  have hts := X.1.2.2.2.2
  rw [f_X0_copyFrom] at hf
  refine lv_aload_n hx hb dX0_copyFrom_0 rfl (lv_at hl 1 rfl) ?_
  refine gf_X0_9 X hG h1 dX0_copyFrom_1 ?_
  refine lv_iconst (v := 0) hx hb dX0_copyFrom_4 (by decide) ?_
  refine lv_aload_n hx hb dX0_copyFrom_5 rfl (lv_at hl 0 rfl) ?_
  refine gf_X0_9 X hG hT dX0_copyFrom_6 ?_
  refine lv_iconst (v := 0) hx hb dX0_copyFrom_9 (by decide) ?_
  refine lv_bipush (v := 12) hx hb dX0_copyFrom_10 (by decide) ?_
  obtain ⟨hc1, hf⟩ := cpk_some hf
  refine mw_cp X hG hl.1 h1.2.1 hT.2.1 hc1 wd_ml_X0_37 ⟨Nat.le_of_ble_eq_true rfl, Nat.le_of_ble_eq_true rfl⟩ wd_na_arraycopyName wd_st_arraycopyName wd_ini_java_lang_System dX0_copyFrom_12 (fun M2 H locs eM2 hG => ?_)
  have hf := nm_of eM2 hf
  refine lv_aload_n hx hb dX0_copyFrom_15 rfl (lv_at hl 1 rfl) ?_
  refine gf_X0_15 X hG h1 dX0_copyFrom_16 ?_
  refine lv_iconst (v := 0) hx hb dX0_copyFrom_19 (by decide) ?_
  refine lv_aload_n hx hb dX0_copyFrom_20 rfl (lv_at hl 0 rfl) ?_
  refine gf_X0_15 X hG hT dX0_copyFrom_21 ?_
  refine lv_iconst (v := 0) hx hb dX0_copyFrom_24 (by decide) ?_
  refine lv_bipush (v := 12) hx hb dX0_copyFrom_25 (by decide) ?_
  obtain ⟨hc3, hf⟩ := cpk_some hf
  refine mw_cp X hG hl.1 h1.2.2.1 hT.2.2.1 hc3 wd_ml_X0_37 ⟨Nat.le_of_ble_eq_true rfl, Nat.le_of_ble_eq_true rfl⟩ wd_na_arraycopyName wd_st_arraycopyName wd_ini_java_lang_System dX0_copyFrom_27 (fun M4 H locs eM4 hG => ?_)
  have hf := nm_of eM4 hf
  refine lv_aload_n hx hb dX0_copyFrom_30 rfl (lv_at hl 1 rfl) ?_
  refine gf_X0_18 X hG h1 dX0_copyFrom_31 ?_
  refine lv_iconst (v := 0) hx hb dX0_copyFrom_34 (by decide) ?_
  refine lv_aload_n hx hb dX0_copyFrom_35 rfl (lv_at hl 0 rfl) ?_
  refine gf_X0_18 X hG hT dX0_copyFrom_36 ?_
  refine lv_iconst (v := 0) hx hb dX0_copyFrom_39 (by decide) ?_
  refine lv_bipush (v := 12) hx hb dX0_copyFrom_40 (by decide) ?_
  obtain ⟨hc5, hf⟩ := cpk_some hf
  refine mw_cp X hG hl.1 h1.2.2.2.1 hT.2.2.2.1 hc5 wd_ml_X0_37 ⟨Nat.le_of_ble_eq_true rfl, Nat.le_of_ble_eq_true rfl⟩ wd_na_arraycopyName wd_st_arraycopyName wd_ini_java_lang_System dX0_copyFrom_42 (fun M6 H locs eM6 hG => ?_)
  have hf := nm_of eM6 hf
  refine lv_aload_n hx hb dX0_copyFrom_45 rfl (lv_at hl 1 rfl) ?_
  refine gf_X0_21 X hG h1 dX0_copyFrom_46 ?_
  refine lv_iconst (v := 0) hx hb dX0_copyFrom_49 (by decide) ?_
  refine lv_aload_n hx hb dX0_copyFrom_50 rfl (lv_at hl 0 rfl) ?_
  refine gf_X0_21 X hG hT dX0_copyFrom_51 ?_
  refine lv_iconst (v := 0) hx hb dX0_copyFrom_54 (by decide) ?_
  refine lv_bipush (v := 12) hx hb dX0_copyFrom_55 (by decide) ?_
  obtain ⟨hc7, hf⟩ := cpk_some hf
  refine mw_cp X hG hl.1 h1.2.2.2.2.1 hT.2.2.2.2.1 hc7 wd_ml_X0_37 ⟨Nat.le_of_ble_eq_true rfl, Nat.le_of_ble_eq_true rfl⟩ wd_na_arraycopyName wd_st_arraycopyName wd_ini_java_lang_System dX0_copyFrom_57 (fun M8 H locs eM8 hG => ?_)
  have hf := nm_of eM8 hf
  refine lv_aload_n hx hb dX0_copyFrom_60 rfl (lv_at hl 1 rfl) ?_
  refine gf_X0_24 X hG h1 dX0_copyFrom_61 ?_
  refine lv_iconst (v := 0) hx hb dX0_copyFrom_64 (by decide) ?_
  refine lv_aload_n hx hb dX0_copyFrom_65 rfl (lv_at hl 0 rfl) ?_
  refine gf_X0_24 X hG hT dX0_copyFrom_66 ?_
  refine lv_iconst (v := 0) hx hb dX0_copyFrom_69 (by decide) ?_
  refine lv_bipush (v := 12) hx hb dX0_copyFrom_70 (by decide) ?_
  obtain ⟨hc9, hf⟩ := cpk_some hf
  refine mw_cp X hG hl.1 h1.2.2.2.2.2.1 hT.2.2.2.2.2.1 hc9 wd_ml_X0_37 ⟨Nat.le_of_ble_eq_true rfl, Nat.le_of_ble_eq_true rfl⟩ wd_na_arraycopyName wd_st_arraycopyName wd_ini_java_lang_System dX0_copyFrom_72 (fun M10 H locs eM10 hG => ?_)
  have hf := nm_of eM10 hf
  refine lv_aload_n hx hb dX0_copyFrom_75 rfl (lv_at hl 1 rfl) ?_
  refine gf_X0_27 X hG h1 dX0_copyFrom_76 ?_
  refine lv_iconst (v := 0) hx hb dX0_copyFrom_79 (by decide) ?_
  refine lv_aload_n hx hb dX0_copyFrom_80 rfl (lv_at hl 0 rfl) ?_
  refine gf_X0_27 X hG hT dX0_copyFrom_81 ?_
  refine lv_iconst (v := 0) hx hb dX0_copyFrom_84 (by decide) ?_
  refine lv_bipush (v := 12) hx hb dX0_copyFrom_85 (by decide) ?_
  obtain ⟨hc11, hf⟩ := cpk_some hf
  refine mw_cp X hG hl.1 h1.2.2.2.2.2.2.1 hT.2.2.2.2.2.2.1 hc11 wd_ml_X0_37 ⟨Nat.le_of_ble_eq_true rfl, Nat.le_of_ble_eq_true rfl⟩ wd_na_arraycopyName wd_st_arraycopyName wd_ini_java_lang_System dX0_copyFrom_87 (fun M12 H locs eM12 hG => ?_)
  have hf := nm_of eM12 hf
  refine lv_aload_n hx hb dX0_copyFrom_90 rfl (lv_at hl 1 rfl) ?_
  refine gf_X0_30 X hG h1 dX0_copyFrom_91 ?_
  refine lv_iconst (v := 0) hx hb dX0_copyFrom_94 (by decide) ?_
  refine lv_aload_n hx hb dX0_copyFrom_95 rfl (lv_at hl 0 rfl) ?_
  refine gf_X0_30 X hG hT dX0_copyFrom_96 ?_
  refine lv_iconst (v := 0) hx hb dX0_copyFrom_99 (by decide) ?_
  refine lv_bipush (v := 12) hx hb dX0_copyFrom_100 (by decide) ?_
  obtain ⟨hc13, hf⟩ := cpk_some hf
  refine mw_cp X hG hl.1 h1.2.2.2.2.2.2.2 hT.2.2.2.2.2.2.2 hc13 wd_ml_X0_37 ⟨Nat.le_of_ble_eq_true rfl, Nat.le_of_ble_eq_true rfl⟩ wd_na_arraycopyName wd_st_arraycopyName wd_ini_java_lang_System dX0_copyFrom_102 (fun M14 H locs eM14 hG => ?_)
  have hf := nm_of eM14 hf
  refine lv_aload_n hx hb dX0_copyFrom_105 rfl (lv_at hl 0 rfl) ?_
  refine lv_aload_n hx hb dX0_copyFrom_106 rfl (lv_at hl 1 rfl) ?_
  refine gf_X0_33 X hG h1 dX0_copyFrom_107 ?_
  refine pf_X0_33 X hG hT dX0_copyFrom_110 (fun M15 H locs eM15 hG => ?_)
  have hf := nm_of eM15 hf
  obtain rfl := Option.some.inj hf
  exact mw_vret X hG dX0_copyFrom_113
/-! X0_find -/
set_option maxHeartbeats 4000000 in
set_option maxRecDepth 100000 in
theorem w_X0_find_L32 {l : Launch} {dC : Nat → ClassId} {dI : Nat → Nat → Nat} {cy : Nat → ClassId} {a : Nat → Nat} {p : Program} {e : Env} {s : State} {m : MethodId} {args : Array Value} {below : List Frame} {meth : Method} {c : Code} (X : XU dC dI cy a p s m c args meth cX0_find 4 RX0 (some .int)) {M : Mem} {this : Nat} (hT : K0 this) {v1 : Int32} {v2 : Int32} {v3 : Int32} {o : Int32} {k2 : Int32 → Option Int32} (hk2 : ∀ (v3 : Int32) (H : Heap) (locs : List Loc) (ls : Array Slot), k2 v3 = some o → GU dC dI cy a s.heap M H locs → lv_has ls 4 [(0, .ref (a this)), (1, .int v1), (2, .int v2), (3, .int v3)] → W p l e ({ frames := 0, cells := 0, slots := 0, locals := 0 } : Room) s m args below meth c H locs 0 0 (MQ below (QUi dC dI cy a o M) args s 0 0 (AU a)) (F0 m 2 ls [])) {H : Heap} {locs : List Loc} {ls : Array Slot} (hf : f_X0_find_L32 k2 M this v1 v2 v3 = some o) (hG : GU dC dI cy a s.heap M H locs) (hl : lv_has ls 4 [(0, .ref (a this)), (1, .int v1), (2, .int v2), (3, .int v3)]) : W p l e ({ frames := 0, cells := 0, slots := 0, locals := 0 } : Room) s m args below meth c H locs 0 0 (MQ below (QUi dC dI cy a o M) args s 0 0 (AU a)) (F0 m 32 ls []) := by
  have hx := X.1.1
  have hb := X.1.2.1
  have hown := X.1.2.2.2.1
  have hts := X.1.2.2.2.2
  rw [f_X0_find_L32] at hf
  obtain ⟨x1, ex1⟩ : ∃ y : Int32, y = v3 + (1 : Int32) := ⟨_, rfl⟩
  have hf := nm_of ex1 hf
  refine lv_iinc (v := x1) (lv' := [(3, .int x1), (0, .ref (a this)), (1, .int v1), (2, .int v2)]) hx hb dX0_find_32 hl (k := 3) rfl (by rw [ex1]; rfl) (by decide) rfl (fun ls hl => ?_)
  refine lv_goto (tgt := 2) hx hb dX0_find_35 (by decide) ?_
  exact hk2 _ _ _ _ hf hG (lv_sub hl [1, 2, 3, 0] rfl)
set_option maxHeartbeats 4000000 in
set_option maxRecDepth 100000 in
theorem w_X0_find_L2 {l : Launch} {dC : Nat → ClassId} {dI : Nat → Nat → Nat} {cy : Nat → ClassId} {a : Nat → Nat} {p : Program} {e : Env} {s : State} {m : MethodId} {args : Array Value} {below : List Frame} {meth : Method} {c : Code} (X : XU dC dI cy a p s m c args meth cX0_find 4 RX0 (some .int)) {M : Mem} {this : Nat} (hT : K0 this) {v1 : Int32} {v2 : Int32} {o : Int32} : ∀ (n : Nat) (v3 : Int32) (H : Heap) (locs : List Loc) (ls : Array Slot), f_X0_find_L2 M this v1 v2 n v3 = some o → GU dC dI cy a s.heap M H locs → lv_has ls 4 [(0, .ref (a this)), (1, .int v1), (2, .int v2), (3, .int v3)] → W p l e ({ frames := 0, cells := 0, slots := 0, locals := 0 } : Room) s m args below meth c H locs 0 0 (MQ below (QUi dC dI cy a o M) args s 0 0 (AU a)) (F0 m 2 ls []) := by
  have hx := X.1.1
  have hb := X.1.2.1
  have hown := X.1.2.2.2.1
  have hts := X.1.2.2.2.2
  intro n
  induction n with
  | zero => intro v3 H locs ls hf; cases hf
  | succ n ih =>
    intro v3 H locs ls hf hG hl
    rw [f_X0_find_L2] at hf
    refine lv_iload_n hx hb dX0_find_2 rfl (lv_at hl 3 rfl) ?_
    refine lv_aload_n hx hb dX0_find_3 rfl (lv_at hl 0 rfl) ?_
    refine gf_X0_33 X hG hT dX0_find_4 ?_
    refine lv_icmp_ge (tgt := 38) hx hb dX0_find_7 (by decide) (fun c1 => ?_) (fun c1 => ?_)
    · have hf := itep c1 hf
      refine lv_iconst (v := -1) hx hb dX0_find_38 (by decide) ?_
      obtain rfl := Option.some.inj hf
      exact mw_iret X hG dX0_find_39
    · have hf := iten c1 hf
      refine lv_aload_n hx hb dX0_find_10 rfl (lv_at hl 0 rfl) ?_
      refine gf_X0_9 X hG hT dX0_find_11 ?_
      refine lv_iload_n hx hb dX0_find_14 rfl (lv_at hl 3 rfl) ?_
      obtain ⟨hi2, hf⟩ := ck_some hf
      refine mw_iald X hG hT.2.1 hi2 dX0_find_15 ?_
      refine lv_iload_n hx hb dX0_find_16 rfl (lv_at hl 1 rfl) ?_
      refine lv_icmp_ne (tgt := 32) hx hb dX0_find_17 (by decide) (fun c3 => ?_) (fun c3 => ?_)
      · have hf := iten c3 hf
        exact w_X0_find_L32 X hT ih hf hG (lv_sub hl [0, 1, 2, 3] rfl)
      · have hf := itep c3 hf
        refine lv_aload_n hx hb dX0_find_20 rfl (lv_at hl 0 rfl) ?_
        refine gf_X0_15 X hG hT dX0_find_21 ?_
        refine lv_iload_n hx hb dX0_find_24 rfl (lv_at hl 3 rfl) ?_
        obtain ⟨hi4, hf⟩ := ck_some hf
        refine mw_iald X hG hT.2.2.1 hi4 dX0_find_25 ?_
        refine lv_iload_n hx hb dX0_find_26 rfl (lv_at hl 2 rfl) ?_
        refine lv_icmp_ne (tgt := 32) hx hb dX0_find_27 (by decide) (fun c5 => ?_) (fun c5 => ?_)
        · have hf := iten c5 hf
          exact w_X0_find_L32 X hT ih hf hG (lv_sub hl [0, 1, 2, 3] rfl)
        · have hf := itep c5 hf
          refine lv_iload_n hx hb dX0_find_30 rfl (lv_at hl 3 rfl) ?_
          obtain rfl := Option.some.inj hf
          exact mw_iret X hG dX0_find_31
set_option maxHeartbeats 4000000 in
set_option maxRecDepth 100000 in
theorem c_X0_find (l : Launch) (dC : Nat → ClassId) (dI : Nat → Nat → Nat) (cy : Nat → ClassId) (a : Nat → Nat) (ha : injU a) (this : Nat) (hT : K0 this) (M : Mem) (v1 : Int32) (v2 : Int32) {o : Int32} (hf : f_X0_find M this v1 v2 = some o) : Met l yX0_find (wsU yX0_find cX0_find 4 (some .int)) ({ frames := 0, cells := 0, slots := 0, locals := 0 } : Room) (PU dC dI cy a [.ref (a this), .int v1, .int v2] M) (QUi dC dI cy a o M) 0 0 (AU a) := by
  refine mw_met (by decide) ha (Nat.le_of_ble_eq_true rfl) ?_
  intro p e s m below meth c ls X hG hl
  have hl : lv_has ls 4 [(0, .ref (a this)), (1, .int v1), (2, .int v2)] := hl
  have X : XU dC dI cy a p s m c [.ref (a this), .int v1, .int v2].toArray meth cX0_find 4 RX0 (some .int) := X
  have hx := X.1.1
  have hb := X.1.2.1
  have hown := X.1.2.2.2.1
  have hts := X.1.2.2.2.2
  rw [f_X0_find] at hf
  refine lv_iconst (v := 0) hx hb dX0_find_0 (by decide) ?_
  refine lv_istore_n (lv' := [(3, .int (0 : Int32)), (0, .ref (a this)), (1, .int v1), (2, .int v2)]) hx hb dX0_find_1 rfl hl (by decide) rfl (fun ls hl => ?_)
  exact w_X0_find_L2 X hT 1000 _ _ _ _ hf hG (lv_sub hl [1, 2, 3, 0] rfl)
/-! X0_countFrom -/
set_option maxHeartbeats 4000000 in
set_option maxRecDepth 100000 in
theorem w_X0_countFrom_L25 {l : Launch} {dC : Nat → ClassId} {dI : Nat → Nat → Nat} {cy : Nat → ClassId} {a : Nat → Nat} {p : Program} {e : Env} {s : State} {m : MethodId} {args : Array Value} {below : List Frame} {meth : Method} {c : Code} (X : XU dC dI cy a p s m c args meth cX0_countFrom 4 RX0 (some .int)) {M : Mem} {this : Nat} (hT : K0 this) {v1 : Int32} {v2 : Int32} {v3 : Int32} {o : Int32} {k4 : Int32 → Int32 → Option Int32} (hk4 : ∀ (v2 : Int32) (v3 : Int32) (H : Heap) (locs : List Loc) (ls : Array Slot), k4 v2 v3 = some o → GU dC dI cy a s.heap M H locs → lv_has ls 4 [(0, .ref (a this)), (1, .int v1), (2, .int v2), (3, .int v3)] → W p l e ({ frames := 0, cells := 0, slots := 0, locals := 0 } : Room) s m args below meth c H locs 0 0 (MQ below (QUi dC dI cy a o M) args s 0 0 (AU a)) (F0 m 4 ls [])) {H : Heap} {locs : List Loc} {ls : Array Slot} (hf : f_X0_countFrom_L25 k4 M this v1 v2 v3 = some o) (hG : GU dC dI cy a s.heap M H locs) (hl : lv_has ls 4 [(0, .ref (a this)), (1, .int v1), (2, .int v2), (3, .int v3)]) : W p l e ({ frames := 0, cells := 0, slots := 0, locals := 0 } : Room) s m args below meth c H locs 0 0 (MQ below (QUi dC dI cy a o M) args s 0 0 (AU a)) (F0 m 25 ls []) := by
  have hx := X.1.1
  have hb := X.1.2.1
  have hown := X.1.2.2.2.1
  have hts := X.1.2.2.2.2
  rw [f_X0_countFrom_L25] at hf
  obtain ⟨x1, ex1⟩ : ∃ y : Int32, y = v3 + (1 : Int32) := ⟨_, rfl⟩
  have hf := nm_of ex1 hf
  refine lv_iinc (v := x1) (lv' := [(3, .int x1), (0, .ref (a this)), (1, .int v1), (2, .int v2)]) hx hb dX0_countFrom_25 hl (k := 3) rfl (by rw [ex1]; rfl) (by decide) rfl (fun ls hl => ?_)
  refine lv_goto (tgt := 4) hx hb dX0_countFrom_28 (by decide) ?_
  exact hk4 _ _ _ _ _ hf hG (lv_sub hl [1, 2, 3, 0] rfl)
set_option maxHeartbeats 4000000 in
set_option maxRecDepth 100000 in
theorem w_X0_countFrom_L4 {l : Launch} {dC : Nat → ClassId} {dI : Nat → Nat → Nat} {cy : Nat → ClassId} {a : Nat → Nat} {p : Program} {e : Env} {s : State} {m : MethodId} {args : Array Value} {below : List Frame} {meth : Method} {c : Code} (X : XU dC dI cy a p s m c args meth cX0_countFrom 4 RX0 (some .int)) {M : Mem} {this : Nat} (hT : K0 this) {v1 : Int32} {o : Int32} : ∀ (n : Nat) (v2 : Int32) (v3 : Int32) (H : Heap) (locs : List Loc) (ls : Array Slot), f_X0_countFrom_L4 M this v1 n v2 v3 = some o → GU dC dI cy a s.heap M H locs → lv_has ls 4 [(0, .ref (a this)), (1, .int v1), (2, .int v2), (3, .int v3)] → W p l e ({ frames := 0, cells := 0, slots := 0, locals := 0 } : Room) s m args below meth c H locs 0 0 (MQ below (QUi dC dI cy a o M) args s 0 0 (AU a)) (F0 m 4 ls []) := by
  have hx := X.1.1
  have hb := X.1.2.1
  have hown := X.1.2.2.2.1
  have hts := X.1.2.2.2.2
  intro n
  induction n with
  | zero => intro v2 v3 H locs ls hf; cases hf
  | succ n ih =>
    intro v2 v3 H locs ls hf hG hl
    rw [f_X0_countFrom_L4] at hf
    refine lv_iload_n hx hb dX0_countFrom_4 rfl (lv_at hl 3 rfl) ?_
    refine lv_aload_n hx hb dX0_countFrom_5 rfl (lv_at hl 0 rfl) ?_
    refine gf_X0_33 X hG hT dX0_countFrom_6 ?_
    refine lv_icmp_ge (tgt := 31) hx hb dX0_countFrom_9 (by decide) (fun c1 => ?_) (fun c1 => ?_)
    · have hf := itep c1 hf
      refine lv_iload_n hx hb dX0_countFrom_31 rfl (lv_at hl 2 rfl) ?_
      obtain rfl := Option.some.inj hf
      exact mw_iret X hG dX0_countFrom_32
    · have hf := iten c1 hf
      refine lv_aload_n hx hb dX0_countFrom_12 rfl (lv_at hl 0 rfl) ?_
      refine gf_X0_9 X hG hT dX0_countFrom_13 ?_
      refine lv_iload_n hx hb dX0_countFrom_16 rfl (lv_at hl 3 rfl) ?_
      obtain ⟨hi2, hf⟩ := ck_some hf
      refine mw_iald X hG hT.2.1 hi2 dX0_countFrom_17 ?_
      refine lv_iload_n hx hb dX0_countFrom_18 rfl (lv_at hl 1 rfl) ?_
      refine lv_icmp_ne (tgt := 25) hx hb dX0_countFrom_19 (by decide) (fun c3 => ?_) (fun c3 => ?_)
      · have hf := iten c3 hf
        exact w_X0_countFrom_L25 X hT ih hf hG (lv_sub hl [0, 1, 2, 3] rfl)
      · have hf := itep c3 hf
        obtain ⟨x4, ex4⟩ : ∃ y : Int32, y = v2 + (1 : Int32) := ⟨_, rfl⟩
        have hf := nm_of ex4 hf
        refine lv_iinc (v := x4) (lv' := [(2, .int x4), (0, .ref (a this)), (1, .int v1), (3, .int v3)]) hx hb dX0_countFrom_22 hl (k := 2) rfl (by rw [ex4]; rfl) (by decide) rfl (fun ls hl => ?_)
        exact w_X0_countFrom_L25 X hT ih hf hG (lv_sub hl [1, 2, 0, 3] rfl)
set_option maxHeartbeats 4000000 in
set_option maxRecDepth 100000 in
theorem c_X0_countFrom (l : Launch) (dC : Nat → ClassId) (dI : Nat → Nat → Nat) (cy : Nat → ClassId) (a : Nat → Nat) (ha : injU a) (this : Nat) (hT : K0 this) (M : Mem) (v1 : Int32) {o : Int32} (hf : f_X0_countFrom M this v1 = some o) : Met l yX0_countFrom (wsU yX0_countFrom cX0_countFrom 4 (some .int)) ({ frames := 0, cells := 0, slots := 0, locals := 0 } : Room) (PU dC dI cy a [.ref (a this), .int v1] M) (QUi dC dI cy a o M) 0 0 (AU a) := by
  refine mw_met (by decide) ha (Nat.le_of_ble_eq_true rfl) ?_
  intro p e s m below meth c ls X hG hl
  have hl : lv_has ls 4 [(0, .ref (a this)), (1, .int v1)] := hl
  have X : XU dC dI cy a p s m c [.ref (a this), .int v1].toArray meth cX0_countFrom 4 RX0 (some .int) := X
  have hx := X.1.1
  have hb := X.1.2.1
  have hown := X.1.2.2.2.1
  have hts := X.1.2.2.2.2
  rw [f_X0_countFrom] at hf
  refine lv_iconst (v := 0) hx hb dX0_countFrom_0 (by decide) ?_
  refine lv_istore_n (lv' := [(2, .int (0 : Int32)), (0, .ref (a this)), (1, .int v1)]) hx hb dX0_countFrom_1 rfl hl (by decide) rfl (fun ls hl => ?_)
  refine lv_iconst (v := 0) hx hb dX0_countFrom_2 (by decide) ?_
  refine lv_istore_n (lv' := [(3, .int (0 : Int32)), (2, .int (0 : Int32)), (0, .ref (a this)), (1, .int v1)]) hx hb dX0_countFrom_3 rfl hl (by decide) rfl (fun ls hl => ?_)
  exact w_X0_countFrom_L4 X hT 1000 _ _ _ _ _ hf hG (lv_sub hl [2, 3, 1, 0] rfl)
/-! X0_countTo -/
set_option maxHeartbeats 4000000 in
set_option maxRecDepth 100000 in
theorem w_X0_countTo_L25 {l : Launch} {dC : Nat → ClassId} {dI : Nat → Nat → Nat} {cy : Nat → ClassId} {a : Nat → Nat} {p : Program} {e : Env} {s : State} {m : MethodId} {args : Array Value} {below : List Frame} {meth : Method} {c : Code} (X : XU dC dI cy a p s m c args meth cX0_countTo 4 RX0 (some .int)) {M : Mem} {this : Nat} (hT : K0 this) {v1 : Int32} {v2 : Int32} {v3 : Int32} {o : Int32} {k4 : Int32 → Int32 → Option Int32} (hk4 : ∀ (v2 : Int32) (v3 : Int32) (H : Heap) (locs : List Loc) (ls : Array Slot), k4 v2 v3 = some o → GU dC dI cy a s.heap M H locs → lv_has ls 4 [(0, .ref (a this)), (1, .int v1), (2, .int v2), (3, .int v3)] → W p l e ({ frames := 0, cells := 0, slots := 0, locals := 0 } : Room) s m args below meth c H locs 0 0 (MQ below (QUi dC dI cy a o M) args s 0 0 (AU a)) (F0 m 4 ls [])) {H : Heap} {locs : List Loc} {ls : Array Slot} (hf : f_X0_countTo_L25 k4 M this v1 v2 v3 = some o) (hG : GU dC dI cy a s.heap M H locs) (hl : lv_has ls 4 [(0, .ref (a this)), (1, .int v1), (2, .int v2), (3, .int v3)]) : W p l e ({ frames := 0, cells := 0, slots := 0, locals := 0 } : Room) s m args below meth c H locs 0 0 (MQ below (QUi dC dI cy a o M) args s 0 0 (AU a)) (F0 m 25 ls []) := by
  have hx := X.1.1
  have hb := X.1.2.1
  have hown := X.1.2.2.2.1
  have hts := X.1.2.2.2.2
  rw [f_X0_countTo_L25] at hf
  obtain ⟨x1, ex1⟩ : ∃ y : Int32, y = v3 + (1 : Int32) := ⟨_, rfl⟩
  have hf := nm_of ex1 hf
  refine lv_iinc (v := x1) (lv' := [(3, .int x1), (0, .ref (a this)), (1, .int v1), (2, .int v2)]) hx hb dX0_countTo_25 hl (k := 3) rfl (by rw [ex1]; rfl) (by decide) rfl (fun ls hl => ?_)
  refine lv_goto (tgt := 4) hx hb dX0_countTo_28 (by decide) ?_
  exact hk4 _ _ _ _ _ hf hG (lv_sub hl [1, 2, 3, 0] rfl)
set_option maxHeartbeats 4000000 in
set_option maxRecDepth 100000 in
theorem w_X0_countTo_L4 {l : Launch} {dC : Nat → ClassId} {dI : Nat → Nat → Nat} {cy : Nat → ClassId} {a : Nat → Nat} {p : Program} {e : Env} {s : State} {m : MethodId} {args : Array Value} {below : List Frame} {meth : Method} {c : Code} (X : XU dC dI cy a p s m c args meth cX0_countTo 4 RX0 (some .int)) {M : Mem} {this : Nat} (hT : K0 this) {v1 : Int32} {o : Int32} : ∀ (n : Nat) (v2 : Int32) (v3 : Int32) (H : Heap) (locs : List Loc) (ls : Array Slot), f_X0_countTo_L4 M this v1 n v2 v3 = some o → GU dC dI cy a s.heap M H locs → lv_has ls 4 [(0, .ref (a this)), (1, .int v1), (2, .int v2), (3, .int v3)] → W p l e ({ frames := 0, cells := 0, slots := 0, locals := 0 } : Room) s m args below meth c H locs 0 0 (MQ below (QUi dC dI cy a o M) args s 0 0 (AU a)) (F0 m 4 ls []) := by
  have hx := X.1.1
  have hb := X.1.2.1
  have hown := X.1.2.2.2.1
  have hts := X.1.2.2.2.2
  intro n
  induction n with
  | zero => intro v2 v3 H locs ls hf; cases hf
  | succ n ih =>
    intro v2 v3 H locs ls hf hG hl
    rw [f_X0_countTo_L4] at hf
    refine lv_iload_n hx hb dX0_countTo_4 rfl (lv_at hl 3 rfl) ?_
    refine lv_aload_n hx hb dX0_countTo_5 rfl (lv_at hl 0 rfl) ?_
    refine gf_X0_33 X hG hT dX0_countTo_6 ?_
    refine lv_icmp_ge (tgt := 31) hx hb dX0_countTo_9 (by decide) (fun c1 => ?_) (fun c1 => ?_)
    · have hf := itep c1 hf
      refine lv_iload_n hx hb dX0_countTo_31 rfl (lv_at hl 2 rfl) ?_
      obtain rfl := Option.some.inj hf
      exact mw_iret X hG dX0_countTo_32
    · have hf := iten c1 hf
      refine lv_aload_n hx hb dX0_countTo_12 rfl (lv_at hl 0 rfl) ?_
      refine gf_X0_15 X hG hT dX0_countTo_13 ?_
      refine lv_iload_n hx hb dX0_countTo_16 rfl (lv_at hl 3 rfl) ?_
      obtain ⟨hi2, hf⟩ := ck_some hf
      refine mw_iald X hG hT.2.2.1 hi2 dX0_countTo_17 ?_
      refine lv_iload_n hx hb dX0_countTo_18 rfl (lv_at hl 1 rfl) ?_
      refine lv_icmp_ne (tgt := 25) hx hb dX0_countTo_19 (by decide) (fun c3 => ?_) (fun c3 => ?_)
      · have hf := iten c3 hf
        exact w_X0_countTo_L25 X hT ih hf hG (lv_sub hl [0, 1, 2, 3] rfl)
      · have hf := itep c3 hf
        obtain ⟨x4, ex4⟩ : ∃ y : Int32, y = v2 + (1 : Int32) := ⟨_, rfl⟩
        have hf := nm_of ex4 hf
        refine lv_iinc (v := x4) (lv' := [(2, .int x4), (0, .ref (a this)), (1, .int v1), (3, .int v3)]) hx hb dX0_countTo_22 hl (k := 2) rfl (by rw [ex4]; rfl) (by decide) rfl (fun ls hl => ?_)
        exact w_X0_countTo_L25 X hT ih hf hG (lv_sub hl [1, 2, 0, 3] rfl)
set_option maxHeartbeats 4000000 in
set_option maxRecDepth 100000 in
theorem c_X0_countTo (l : Launch) (dC : Nat → ClassId) (dI : Nat → Nat → Nat) (cy : Nat → ClassId) (a : Nat → Nat) (ha : injU a) (this : Nat) (hT : K0 this) (M : Mem) (v1 : Int32) {o : Int32} (hf : f_X0_countTo M this v1 = some o) : Met l yX0_countTo (wsU yX0_countTo cX0_countTo 4 (some .int)) ({ frames := 0, cells := 0, slots := 0, locals := 0 } : Room) (PU dC dI cy a [.ref (a this), .int v1] M) (QUi dC dI cy a o M) 0 0 (AU a) := by
  refine mw_met (by decide) ha (Nat.le_of_ble_eq_true rfl) ?_
  intro p e s m below meth c ls X hG hl
  have hl : lv_has ls 4 [(0, .ref (a this)), (1, .int v1)] := hl
  have X : XU dC dI cy a p s m c [.ref (a this), .int v1].toArray meth cX0_countTo 4 RX0 (some .int) := X
  have hx := X.1.1
  have hb := X.1.2.1
  have hown := X.1.2.2.2.1
  have hts := X.1.2.2.2.2
  rw [f_X0_countTo] at hf
  refine lv_iconst (v := 0) hx hb dX0_countTo_0 (by decide) ?_
  refine lv_istore_n (lv' := [(2, .int (0 : Int32)), (0, .ref (a this)), (1, .int v1)]) hx hb dX0_countTo_1 rfl hl (by decide) rfl (fun ls hl => ?_)
  refine lv_iconst (v := 0) hx hb dX0_countTo_2 (by decide) ?_
  refine lv_istore_n (lv' := [(3, .int (0 : Int32)), (2, .int (0 : Int32)), (0, .ref (a this)), (1, .int v1)]) hx hb dX0_countTo_3 rfl hl (by decide) rfl (fun ls hl => ?_)
  exact w_X0_countTo_L4 X hT 1000 _ _ _ _ _ hf hG (lv_sub hl [2, 3, 1, 0] rfl)
/-! X0_atPlaceFrom -/
set_option maxHeartbeats 4000000 in
set_option maxRecDepth 100000 in
theorem w_X0_atPlaceFrom_L36 {l : Launch} {dC : Nat → ClassId} {dI : Nat → Nat → Nat} {cy : Nat → ClassId} {a : Nat → Nat} {p : Program} {e : Env} {s : State} {m : MethodId} {args : Array Value} {below : List Frame} {meth : Method} {c : Code} (X : XU dC dI cy a p s m c args meth cX0_atPlaceFrom 5 RX0 (some .int)) {M : Mem} {this : Nat} (hT : K0 this) {v1 : Int32} {v2 : Int32} {v3 : Int32} {v4 : Int32} {o : Int32} {k5 : Int32 → Int32 → Option Int32} (hk5 : ∀ (v3 : Int32) (v4 : Int32) (H : Heap) (locs : List Loc) (ls : Array Slot), k5 v3 v4 = some o → GU dC dI cy a s.heap M H locs → lv_has ls 5 [(0, .ref (a this)), (1, .int v1), (2, .int v2), (3, .int v3), (4, .int v4)] → W p l e ({ frames := 0, cells := 0, slots := 0, locals := 0 } : Room) s m args below meth c H locs 0 0 (MQ below (QUi dC dI cy a o M) args s 0 0 (AU a)) (F0 m 5 ls [])) {H : Heap} {locs : List Loc} {ls : Array Slot} (hf : f_X0_atPlaceFrom_L36 k5 M this v1 v2 v3 v4 = some o) (hG : GU dC dI cy a s.heap M H locs) (hl : lv_has ls 5 [(0, .ref (a this)), (1, .int v1), (2, .int v2), (3, .int v3), (4, .int v4)]) : W p l e ({ frames := 0, cells := 0, slots := 0, locals := 0 } : Room) s m args below meth c H locs 0 0 (MQ below (QUi dC dI cy a o M) args s 0 0 (AU a)) (F0 m 36 ls []) := by
  have hx := X.1.1
  have hb := X.1.2.1
  have hown := X.1.2.2.2.1
  have hts := X.1.2.2.2.2
  rw [f_X0_atPlaceFrom_L36] at hf
  obtain ⟨x1, ex1⟩ : ∃ y : Int32, y = v4 + (1 : Int32) := ⟨_, rfl⟩
  have hf := nm_of ex1 hf
  refine lv_iinc (v := x1) (lv' := [(4, .int x1), (0, .ref (a this)), (1, .int v1), (2, .int v2), (3, .int v3)]) hx hb dX0_atPlaceFrom_36 hl (k := 4) rfl (by rw [ex1]; rfl) (by decide) rfl (fun ls hl => ?_)
  refine lv_goto (tgt := 5) hx hb dX0_atPlaceFrom_39 (by decide) ?_
  exact hk5 _ _ _ _ _ hf hG (lv_sub hl [1, 2, 3, 4, 0] rfl)
set_option maxHeartbeats 4000000 in
set_option maxRecDepth 100000 in
theorem w_X0_atPlaceFrom_L5 {l : Launch} {dC : Nat → ClassId} {dI : Nat → Nat → Nat} {cy : Nat → ClassId} {a : Nat → Nat} {p : Program} {e : Env} {s : State} {m : MethodId} {args : Array Value} {below : List Frame} {meth : Method} {c : Code} (X : XU dC dI cy a p s m c args meth cX0_atPlaceFrom 5 RX0 (some .int)) {M : Mem} {this : Nat} (hT : K0 this) {v1 : Int32} {v2 : Int32} {o : Int32} : ∀ (n : Nat) (v3 : Int32) (v4 : Int32) (H : Heap) (locs : List Loc) (ls : Array Slot), f_X0_atPlaceFrom_L5 M this v1 v2 n v3 v4 = some o → GU dC dI cy a s.heap M H locs → lv_has ls 5 [(0, .ref (a this)), (1, .int v1), (2, .int v2), (3, .int v3), (4, .int v4)] → W p l e ({ frames := 0, cells := 0, slots := 0, locals := 0 } : Room) s m args below meth c H locs 0 0 (MQ below (QUi dC dI cy a o M) args s 0 0 (AU a)) (F0 m 5 ls []) := by
  have hx := X.1.1
  have hb := X.1.2.1
  have hown := X.1.2.2.2.1
  have hts := X.1.2.2.2.2
  intro n
  induction n with
  | zero => intro v3 v4 H locs ls hf; cases hf
  | succ n ih =>
    intro v3 v4 H locs ls hf hG hl
    rw [f_X0_atPlaceFrom_L5] at hf
    refine lv_iload hx hb dX0_atPlaceFrom_5 (lv_at hl 4 rfl) ?_
    refine lv_aload_n hx hb dX0_atPlaceFrom_7 rfl (lv_at hl 0 rfl) ?_
    refine gf_X0_33 X hG hT dX0_atPlaceFrom_8 ?_
    refine lv_icmp_ge (tgt := 42) hx hb dX0_atPlaceFrom_11 (by decide) (fun c1 => ?_) (fun c1 => ?_)
    · have hf := itep c1 hf
      refine lv_iconst (v := -1) hx hb dX0_atPlaceFrom_42 (by decide) ?_
      obtain rfl := Option.some.inj hf
      exact mw_iret X hG dX0_atPlaceFrom_43
    · have hf := iten c1 hf
      refine lv_aload_n hx hb dX0_atPlaceFrom_14 rfl (lv_at hl 0 rfl) ?_
      refine gf_X0_9 X hG hT dX0_atPlaceFrom_15 ?_
      refine lv_iload hx hb dX0_atPlaceFrom_18 (lv_at hl 4 rfl) ?_
      obtain ⟨hi2, hf⟩ := ck_some hf
      refine mw_iald X hG hT.2.1 hi2 dX0_atPlaceFrom_20 ?_
      refine lv_iload_n hx hb dX0_atPlaceFrom_21 rfl (lv_at hl 1 rfl) ?_
      refine lv_icmp_ne (tgt := 36) hx hb dX0_atPlaceFrom_22 (by decide) (fun c3 => ?_) (fun c3 => ?_)
      · have hf := iten c3 hf
        exact w_X0_atPlaceFrom_L36 X hT ih hf hG (lv_sub hl [0, 1, 2, 3, 4] rfl)
      · have hf := itep c3 hf
        refine lv_iload_n hx hb dX0_atPlaceFrom_25 rfl (lv_at hl 3 rfl) ?_
        refine lv_iload_n hx hb dX0_atPlaceFrom_26 rfl (lv_at hl 2 rfl) ?_
        refine lv_icmp_ne (tgt := 33) hx hb dX0_atPlaceFrom_27 (by decide) (fun c4 => ?_) (fun c4 => ?_)
        · have hf := iten c4 hf
          obtain ⟨x5, ex5⟩ : ∃ y : Int32, y = v3 + (1 : Int32) := ⟨_, rfl⟩
          have hf := nm_of ex5 hf
          refine lv_iinc (v := x5) (lv' := [(3, .int x5), (0, .ref (a this)), (1, .int v1), (2, .int v2), (4, .int v4)]) hx hb dX0_atPlaceFrom_33 hl (k := 3) rfl (by rw [ex5]; rfl) (by decide) rfl (fun ls hl => ?_)
          exact w_X0_atPlaceFrom_L36 X hT ih hf hG (lv_sub hl [1, 2, 3, 0, 4] rfl)
        · have hf := itep c4 hf
          refine lv_iload hx hb dX0_atPlaceFrom_30 (lv_at hl 4 rfl) ?_
          obtain rfl := Option.some.inj hf
          exact mw_iret X hG dX0_atPlaceFrom_32
set_option maxHeartbeats 4000000 in
set_option maxRecDepth 100000 in
theorem c_X0_atPlaceFrom (l : Launch) (dC : Nat → ClassId) (dI : Nat → Nat → Nat) (cy : Nat → ClassId) (a : Nat → Nat) (ha : injU a) (this : Nat) (hT : K0 this) (M : Mem) (v1 : Int32) (v2 : Int32) {o : Int32} (hf : f_X0_atPlaceFrom M this v1 v2 = some o) : Met l yX0_atPlaceFrom (wsU yX0_atPlaceFrom cX0_atPlaceFrom 5 (some .int)) ({ frames := 0, cells := 0, slots := 0, locals := 0 } : Room) (PU dC dI cy a [.ref (a this), .int v1, .int v2] M) (QUi dC dI cy a o M) 0 0 (AU a) := by
  refine mw_met (by decide) ha (Nat.le_of_ble_eq_true rfl) ?_
  intro p e s m below meth c ls X hG hl
  have hl : lv_has ls 5 [(0, .ref (a this)), (1, .int v1), (2, .int v2)] := hl
  have X : XU dC dI cy a p s m c [.ref (a this), .int v1, .int v2].toArray meth cX0_atPlaceFrom 5 RX0 (some .int) := X
  have hx := X.1.1
  have hb := X.1.2.1
  have hown := X.1.2.2.2.1
  have hts := X.1.2.2.2.2
  rw [f_X0_atPlaceFrom] at hf
  refine lv_iconst (v := 0) hx hb dX0_atPlaceFrom_0 (by decide) ?_
  refine lv_istore_n (lv' := [(3, .int (0 : Int32)), (0, .ref (a this)), (1, .int v1), (2, .int v2)]) hx hb dX0_atPlaceFrom_1 rfl hl (by decide) rfl (fun ls hl => ?_)
  refine lv_iconst (v := 0) hx hb dX0_atPlaceFrom_2 (by decide) ?_
  refine lv_istore (lv' := [(4, .int (0 : Int32)), (3, .int (0 : Int32)), (0, .ref (a this)), (1, .int v1), (2, .int v2)]) hx hb dX0_atPlaceFrom_3 hl (by decide) rfl (fun ls hl => ?_)
  exact w_X0_atPlaceFrom_L5 X hT 1000 _ _ _ _ _ hf hG (lv_sub hl [2, 3, 4, 1, 0] rfl)
/-! X0_ofLeastClockTo -/
set_option maxHeartbeats 4000000 in
set_option maxRecDepth 100000 in
theorem w_X0_ofLeastClockTo_L44 {l : Launch} {dC : Nat → ClassId} {dI : Nat → Nat → Nat} {cy : Nat → ClassId} {a : Nat → Nat} {p : Program} {e : Env} {s : State} {m : MethodId} {args : Array Value} {below : List Frame} {meth : Method} {c : Code} (X : XU dC dI cy a p s m c args meth cX0_ofLeastClockTo 4 RX0 (some .int)) {M : Mem} {this : Nat} (hT : K0 this) {v1 : Int32} {v2 : Int32} {v3 : Int32} {o : Int32} {k4 : Int32 → Int32 → Option Int32} (hk4 : ∀ (v2 : Int32) (v3 : Int32) (H : Heap) (locs : List Loc) (ls : Array Slot), k4 v2 v3 = some o → GU dC dI cy a s.heap M H locs → lv_has ls 4 [(0, .ref (a this)), (1, .int v1), (2, .int v2), (3, .int v3)] → W p l e ({ frames := 0, cells := 0, slots := 0, locals := 0 } : Room) s m args below meth c H locs 0 0 (MQ below (QUi dC dI cy a o M) args s 0 0 (AU a)) (F0 m 4 ls [])) {H : Heap} {locs : List Loc} {ls : Array Slot} (hf : f_X0_ofLeastClockTo_L44 k4 M this v1 v2 v3 = some o) (hG : GU dC dI cy a s.heap M H locs) (hl : lv_has ls 4 [(0, .ref (a this)), (1, .int v1), (2, .int v2), (3, .int v3)]) : W p l e ({ frames := 0, cells := 0, slots := 0, locals := 0 } : Room) s m args below meth c H locs 0 0 (MQ below (QUi dC dI cy a o M) args s 0 0 (AU a)) (F0 m 44 ls []) := by
  have hx := X.1.1
  have hb := X.1.2.1
  have hown := X.1.2.2.2.1
  have hts := X.1.2.2.2.2
  rw [f_X0_ofLeastClockTo_L44] at hf
  obtain ⟨x1, ex1⟩ : ∃ y : Int32, y = v3 + (1 : Int32) := ⟨_, rfl⟩
  have hf := nm_of ex1 hf
  refine lv_iinc (v := x1) (lv' := [(3, .int x1), (0, .ref (a this)), (1, .int v1), (2, .int v2)]) hx hb dX0_ofLeastClockTo_44 hl (k := 3) rfl (by rw [ex1]; rfl) (by decide) rfl (fun ls hl => ?_)
  refine lv_goto (tgt := 4) hx hb dX0_ofLeastClockTo_47 (by decide) ?_
  exact hk4 _ _ _ _ _ hf hG (lv_sub hl [1, 2, 3, 0] rfl)
set_option maxHeartbeats 4000000 in
set_option maxRecDepth 100000 in
theorem w_X0_ofLeastClockTo_L42 {l : Launch} {dC : Nat → ClassId} {dI : Nat → Nat → Nat} {cy : Nat → ClassId} {a : Nat → Nat} {p : Program} {e : Env} {s : State} {m : MethodId} {args : Array Value} {below : List Frame} {meth : Method} {c : Code} (X : XU dC dI cy a p s m c args meth cX0_ofLeastClockTo 4 RX0 (some .int)) {M : Mem} {this : Nat} (hT : K0 this) {v1 : Int32} {v3 : Int32} {o : Int32} {k4 : Int32 → Int32 → Option Int32} (hk4 : ∀ (v2 : Int32) (v3 : Int32) (H : Heap) (locs : List Loc) (ls : Array Slot), k4 v2 v3 = some o → GU dC dI cy a s.heap M H locs → lv_has ls 4 [(0, .ref (a this)), (1, .int v1), (2, .int v2), (3, .int v3)] → W p l e ({ frames := 0, cells := 0, slots := 0, locals := 0 } : Room) s m args below meth c H locs 0 0 (MQ below (QUi dC dI cy a o M) args s 0 0 (AU a)) (F0 m 4 ls [])) {H : Heap} {locs : List Loc} {ls : Array Slot} (hf : f_X0_ofLeastClockTo_L42 k4 M this v1 v3 = some o) (hG : GU dC dI cy a s.heap M H locs) (hl : lv_has ls 4 [(0, .ref (a this)), (1, .int v1), (3, .int v3)]) : W p l e ({ frames := 0, cells := 0, slots := 0, locals := 0 } : Room) s m args below meth c H locs 0 0 (MQ below (QUi dC dI cy a o M) args s 0 0 (AU a)) (F0 m 42 ls []) := by
  have hx := X.1.1
  have hb := X.1.2.1
  have hown := X.1.2.2.2.1
  have hts := X.1.2.2.2.2
  rw [f_X0_ofLeastClockTo_L42] at hf
  refine lv_iload_n hx hb dX0_ofLeastClockTo_42 rfl (lv_at hl 2 rfl) ?_
  refine lv_istore_n (lv' := [(2, .int v3), (0, .ref (a this)), (1, .int v1), (3, .int v3)]) hx hb dX0_ofLeastClockTo_43 rfl hl (by decide) rfl (fun ls hl => ?_)
  exact w_X0_ofLeastClockTo_L44 X hT hk4 hf hG (lv_sub hl [1, 2, 0, 3] rfl)
set_option maxHeartbeats 4000000 in
set_option maxRecDepth 100000 in
theorem w_X0_ofLeastClockTo_L4 {l : Launch} {dC : Nat → ClassId} {dI : Nat → Nat → Nat} {cy : Nat → ClassId} {a : Nat → Nat} {p : Program} {e : Env} {s : State} {m : MethodId} {args : Array Value} {below : List Frame} {meth : Method} {c : Code} (X : XU dC dI cy a p s m c args meth cX0_ofLeastClockTo 4 RX0 (some .int)) {M : Mem} {this : Nat} (hT : K0 this) {v1 : Int32} {o : Int32} : ∀ (n : Nat) (v2 : Int32) (v3 : Int32) (H : Heap) (locs : List Loc) (ls : Array Slot), f_X0_ofLeastClockTo_L4 M this v1 n v2 v3 = some o → GU dC dI cy a s.heap M H locs → lv_has ls 4 [(0, .ref (a this)), (1, .int v1), (2, .int v2), (3, .int v3)] → W p l e ({ frames := 0, cells := 0, slots := 0, locals := 0 } : Room) s m args below meth c H locs 0 0 (MQ below (QUi dC dI cy a o M) args s 0 0 (AU a)) (F0 m 4 ls []) := by
  have hx := X.1.1
  have hb := X.1.2.1
  have hown := X.1.2.2.2.1
  have hts := X.1.2.2.2.2
  intro n
  induction n with
  | zero => intro v2 v3 H locs ls hf; cases hf
  | succ n ih =>
    intro v2 v3 H locs ls hf hG hl
    rw [f_X0_ofLeastClockTo_L4] at hf
    refine lv_iload_n hx hb dX0_ofLeastClockTo_4 rfl (lv_at hl 3 rfl) ?_
    refine lv_aload_n hx hb dX0_ofLeastClockTo_5 rfl (lv_at hl 0 rfl) ?_
    refine gf_X0_33 X hG hT dX0_ofLeastClockTo_6 ?_
    refine lv_icmp_ge (tgt := 50) hx hb dX0_ofLeastClockTo_9 (by decide) (fun c1 => ?_) (fun c1 => ?_)
    · have hf := itep c1 hf
      refine lv_iload_n hx hb dX0_ofLeastClockTo_50 rfl (lv_at hl 2 rfl) ?_
      obtain rfl := Option.some.inj hf
      exact mw_iret X hG dX0_ofLeastClockTo_51
    · have hf := iten c1 hf
      refine lv_aload_n hx hb dX0_ofLeastClockTo_12 rfl (lv_at hl 0 rfl) ?_
      refine gf_X0_15 X hG hT dX0_ofLeastClockTo_13 ?_
      refine lv_iload_n hx hb dX0_ofLeastClockTo_16 rfl (lv_at hl 3 rfl) ?_
      obtain ⟨hi2, hf⟩ := ck_some hf
      refine mw_iald X hG hT.2.2.1 hi2 dX0_ofLeastClockTo_17 ?_
      refine lv_iload_n hx hb dX0_ofLeastClockTo_18 rfl (lv_at hl 1 rfl) ?_
      refine lv_icmp_ne (tgt := 44) hx hb dX0_ofLeastClockTo_19 (by decide) (fun c3 => ?_) (fun c3 => ?_)
      · have hf := iten c3 hf
        exact w_X0_ofLeastClockTo_L44 X hT ih hf hG (lv_sub hl [0, 1, 2, 3] rfl)
      · have hf := itep c3 hf
        refine lv_iload_n hx hb dX0_ofLeastClockTo_22 rfl (lv_at hl 2 rfl) ?_
        refine lv_iconst (v := -1) hx hb dX0_ofLeastClockTo_23 (by decide) ?_
        refine lv_icmp_eq (tgt := 42) hx hb dX0_ofLeastClockTo_24 (by decide) (fun c4 => ?_) (fun c4 => ?_)
        · have hf := itep c4 hf
          exact w_X0_ofLeastClockTo_L42 X hT ih hf hG (lv_sub hl [0, 1, 3] rfl)
        · have hf := iten c4 hf
          refine lv_aload_n hx hb dX0_ofLeastClockTo_27 rfl (lv_at hl 0 rfl) ?_
          refine gf_X0_24 X hG hT dX0_ofLeastClockTo_28 ?_
          refine lv_iload_n hx hb dX0_ofLeastClockTo_31 rfl (lv_at hl 3 rfl) ?_
          obtain ⟨hi5, hf⟩ := ck_some hf
          refine mw_iald X hG hT.2.2.2.2.2.1 hi5 dX0_ofLeastClockTo_32 ?_
          refine lv_aload_n hx hb dX0_ofLeastClockTo_33 rfl (lv_at hl 0 rfl) ?_
          refine gf_X0_24 X hG hT dX0_ofLeastClockTo_34 ?_
          refine lv_iload_n hx hb dX0_ofLeastClockTo_37 rfl (lv_at hl 2 rfl) ?_
          obtain ⟨hi6, hf⟩ := ck_some hf
          refine mw_iald X hG hT.2.2.2.2.2.1 hi6 dX0_ofLeastClockTo_38 ?_
          refine lv_icmp_ge (tgt := 44) hx hb dX0_ofLeastClockTo_39 (by decide) (fun c7 => ?_) (fun c7 => ?_)
          · have hf := itep c7 hf
            exact w_X0_ofLeastClockTo_L44 X hT ih hf hG (lv_sub hl [0, 1, 2, 3] rfl)
          · have hf := iten c7 hf
            exact w_X0_ofLeastClockTo_L42 X hT ih hf hG (lv_sub hl [0, 1, 3] rfl)
set_option maxHeartbeats 4000000 in
set_option maxRecDepth 100000 in
theorem c_X0_ofLeastClockTo (l : Launch) (dC : Nat → ClassId) (dI : Nat → Nat → Nat) (cy : Nat → ClassId) (a : Nat → Nat) (ha : injU a) (this : Nat) (hT : K0 this) (M : Mem) (v1 : Int32) {o : Int32} (hf : f_X0_ofLeastClockTo M this v1 = some o) : Met l yX0_ofLeastClockTo (wsU yX0_ofLeastClockTo cX0_ofLeastClockTo 4 (some .int)) ({ frames := 0, cells := 0, slots := 0, locals := 0 } : Room) (PU dC dI cy a [.ref (a this), .int v1] M) (QUi dC dI cy a o M) 0 0 (AU a) := by
  refine mw_met (by decide) ha (Nat.le_of_ble_eq_true rfl) ?_
  intro p e s m below meth c ls X hG hl
  have hl : lv_has ls 4 [(0, .ref (a this)), (1, .int v1)] := hl
  have X : XU dC dI cy a p s m c [.ref (a this), .int v1].toArray meth cX0_ofLeastClockTo 4 RX0 (some .int) := X
  have hx := X.1.1
  have hb := X.1.2.1
  have hown := X.1.2.2.2.1
  have hts := X.1.2.2.2.2
  rw [f_X0_ofLeastClockTo] at hf
  refine lv_iconst (v := -1) hx hb dX0_ofLeastClockTo_0 (by decide) ?_
  refine lv_istore_n (lv' := [(2, .int (-1 : Int32)), (0, .ref (a this)), (1, .int v1)]) hx hb dX0_ofLeastClockTo_1 rfl hl (by decide) rfl (fun ls hl => ?_)
  refine lv_iconst (v := 0) hx hb dX0_ofLeastClockTo_2 (by decide) ?_
  refine lv_istore_n (lv' := [(3, .int (0 : Int32)), (2, .int (-1 : Int32)), (0, .ref (a this)), (1, .int v1)]) hx hb dX0_ofLeastClockTo_3 rfl hl (by decide) rfl (fun ls hl => ?_)
  exact w_X0_ofLeastClockTo_L4 X hT 1000 _ _ _ _ _ hf hG (lv_sub hl [2, 3, 1, 0] rfl)
/-! X0_promiseMoreThan -/
set_option maxHeartbeats 4000000 in
set_option maxRecDepth 100000 in
theorem w_X0_promiseMoreThan_L39 {l : Launch} {dC : Nat → ClassId} {dI : Nat → Nat → Nat} {cy : Nat → ClassId} {a : Nat → Nat} {p : Program} {e : Env} {s : State} {m : MethodId} {args : Array Value} {below : List Frame} {meth : Method} {c : Code} (X : XU dC dI cy a p s m c args meth cX0_promiseMoreThan 4 RX0 (some .boolean)) {M : Mem} {this : Nat} (hT : K0 this) {v1 : Int32} {v2 : Int32} {v3 : Int32} {o : Int32} {k2 : Int32 → Option Int32} (hk2 : ∀ (v3 : Int32) (H : Heap) (locs : List Loc) (ls : Array Slot), k2 v3 = some o → GU dC dI cy a s.heap M H locs → lv_has ls 4 [(0, .ref (a this)), (1, .int v1), (2, .int v2), (3, .int v3)] → W p l e ({ frames := 0, cells := 0, slots := 0, locals := 0 } : Room) s m args below meth c H locs 0 0 (MQ below (QUi dC dI cy a o M) args s 0 0 (AU a)) (F0 m 2 ls [])) {H : Heap} {locs : List Loc} {ls : Array Slot} (hf : f_X0_promiseMoreThan_L39 k2 M this v1 v2 v3 = some o) (hG : GU dC dI cy a s.heap M H locs) (hl : lv_has ls 4 [(0, .ref (a this)), (1, .int v1), (2, .int v2), (3, .int v3)]) : W p l e ({ frames := 0, cells := 0, slots := 0, locals := 0 } : Room) s m args below meth c H locs 0 0 (MQ below (QUi dC dI cy a o M) args s 0 0 (AU a)) (F0 m 39 ls []) := by
  have hx := X.1.1
  have hb := X.1.2.1
  have hown := X.1.2.2.2.1
  have hts := X.1.2.2.2.2
  rw [f_X0_promiseMoreThan_L39] at hf
  obtain ⟨x1, ex1⟩ : ∃ y : Int32, y = v3 + (1 : Int32) := ⟨_, rfl⟩
  have hf := nm_of ex1 hf
  refine lv_iinc (v := x1) (lv' := [(3, .int x1), (0, .ref (a this)), (1, .int v1), (2, .int v2)]) hx hb dX0_promiseMoreThan_39 hl (k := 3) rfl (by rw [ex1]; rfl) (by decide) rfl (fun ls hl => ?_)
  refine lv_goto (tgt := 2) hx hb dX0_promiseMoreThan_42 (by decide) ?_
  exact hk2 _ _ _ _ hf hG (lv_sub hl [1, 2, 3, 0] rfl)
set_option maxHeartbeats 4000000 in
set_option maxRecDepth 100000 in
theorem w_X0_promiseMoreThan_L2 {l : Launch} {dC : Nat → ClassId} {dI : Nat → Nat → Nat} {cy : Nat → ClassId} {a : Nat → Nat} {p : Program} {e : Env} {s : State} {m : MethodId} {args : Array Value} {below : List Frame} {meth : Method} {c : Code} (X : XU dC dI cy a p s m c args meth cX0_promiseMoreThan 4 RX0 (some .boolean)) {M : Mem} {this : Nat} (hT : K0 this) {v1 : Int32} {v2 : Int32} {o : Int32} : ∀ (n : Nat) (v3 : Int32) (H : Heap) (locs : List Loc) (ls : Array Slot), f_X0_promiseMoreThan_L2 M this v1 v2 n v3 = some o → GU dC dI cy a s.heap M H locs → lv_has ls 4 [(0, .ref (a this)), (1, .int v1), (2, .int v2), (3, .int v3)] → W p l e ({ frames := 0, cells := 0, slots := 0, locals := 0 } : Room) s m args below meth c H locs 0 0 (MQ below (QUi dC dI cy a o M) args s 0 0 (AU a)) (F0 m 2 ls []) := by
  have hx := X.1.1
  have hb := X.1.2.1
  have hown := X.1.2.2.2.1
  have hts := X.1.2.2.2.2
  intro n
  induction n with
  | zero => intro v3 H locs ls hf; cases hf
  | succ n ih =>
    intro v3 H locs ls hf hG hl
    rw [f_X0_promiseMoreThan_L2] at hf
    refine lv_iload_n hx hb dX0_promiseMoreThan_2 rfl (lv_at hl 3 rfl) ?_
    refine lv_aload_n hx hb dX0_promiseMoreThan_3 rfl (lv_at hl 0 rfl) ?_
    refine gf_X0_33 X hG hT dX0_promiseMoreThan_4 ?_
    refine lv_icmp_ge (tgt := 45) hx hb dX0_promiseMoreThan_7 (by decide) (fun c1 => ?_) (fun c1 => ?_)
    · have hf := itep c1 hf
      refine lv_iconst (v := 0) hx hb dX0_promiseMoreThan_45 (by decide) ?_
      obtain rfl := Option.some.inj hf
      exact mw_zret X hG (by decide) dX0_promiseMoreThan_46
    · have hf := iten c1 hf
      refine lv_aload_n hx hb dX0_promiseMoreThan_10 rfl (lv_at hl 0 rfl) ?_
      refine gf_X0_9 X hG hT dX0_promiseMoreThan_11 ?_
      refine lv_iload_n hx hb dX0_promiseMoreThan_14 rfl (lv_at hl 3 rfl) ?_
      obtain ⟨hi2, hf⟩ := ck_some hf
      refine mw_iald X hG hT.2.1 hi2 dX0_promiseMoreThan_15 ?_
      refine lv_iload_n hx hb dX0_promiseMoreThan_16 rfl (lv_at hl 1 rfl) ?_
      refine lv_icmp_ne (tgt := 39) hx hb dX0_promiseMoreThan_17 (by decide) (fun c3 => ?_) (fun c3 => ?_)
      · have hf := iten c3 hf
        exact w_X0_promiseMoreThan_L39 X hT ih hf hG (lv_sub hl [0, 1, 2, 3] rfl)
      · have hf := itep c3 hf
        refine lv_aload_n hx hb dX0_promiseMoreThan_20 rfl (lv_at hl 0 rfl) ?_
        refine gf_X0_24 X hG hT dX0_promiseMoreThan_21 ?_
        refine lv_iload_n hx hb dX0_promiseMoreThan_24 rfl (lv_at hl 3 rfl) ?_
        obtain ⟨hi4, hf⟩ := ck_some hf
        refine mw_iald X hG hT.2.2.2.2.2.1 hi4 dX0_promiseMoreThan_25 ?_
        refine lv_iload_n hx hb dX0_promiseMoreThan_26 rfl (lv_at hl 2 rfl) ?_
        refine lv_aload_n hx hb dX0_promiseMoreThan_27 rfl (lv_at hl 0 rfl) ?_
        refine gf_X0_18 X hG hT dX0_promiseMoreThan_28 ?_
        refine lv_iload_n hx hb dX0_promiseMoreThan_31 rfl (lv_at hl 3 rfl) ?_
        obtain ⟨hi5, hf⟩ := ck_some hf
        refine mw_iald X hG hT.2.2.2.1 hi5 dX0_promiseMoreThan_32 ?_
        refine lv_iadd hx hb dX0_promiseMoreThan_33 ?_
        refine lv_icmp_le (tgt := 39) hx hb dX0_promiseMoreThan_34 (by decide) (fun c6 => ?_) (fun c6 => ?_)
        · have hf := itep c6 hf
          exact w_X0_promiseMoreThan_L39 X hT ih hf hG (lv_sub hl [0, 1, 2, 3] rfl)
        · have hf := iten c6 hf
          refine lv_iconst (v := 1) hx hb dX0_promiseMoreThan_37 (by decide) ?_
          obtain rfl := Option.some.inj hf
          exact mw_zret X hG (by decide) dX0_promiseMoreThan_38
set_option maxHeartbeats 4000000 in
set_option maxRecDepth 100000 in
theorem c_X0_promiseMoreThan (l : Launch) (dC : Nat → ClassId) (dI : Nat → Nat → Nat) (cy : Nat → ClassId) (a : Nat → Nat) (ha : injU a) (this : Nat) (hT : K0 this) (M : Mem) (v1 : Int32) (v2 : Int32) {o : Int32} (hf : f_X0_promiseMoreThan M this v1 v2 = some o) : Met l yX0_promiseMoreThan (wsU yX0_promiseMoreThan cX0_promiseMoreThan 4 (some .boolean)) ({ frames := 0, cells := 0, slots := 0, locals := 0 } : Room) (PU dC dI cy a [.ref (a this), .int v1, .int v2] M) (QUi dC dI cy a o M) 0 0 (AU a) := by
  refine mw_met (by decide) ha (Nat.le_of_ble_eq_true rfl) ?_
  intro p e s m below meth c ls X hG hl
  have hl : lv_has ls 4 [(0, .ref (a this)), (1, .int v1), (2, .int v2)] := hl
  have X : XU dC dI cy a p s m c [.ref (a this), .int v1, .int v2].toArray meth cX0_promiseMoreThan 4 RX0 (some .boolean) := X
  have hx := X.1.1
  have hb := X.1.2.1
  have hown := X.1.2.2.2.1
  have hts := X.1.2.2.2.2
  rw [f_X0_promiseMoreThan] at hf
  refine lv_iconst (v := 0) hx hb dX0_promiseMoreThan_0 (by decide) ?_
  refine lv_istore_n (lv' := [(3, .int (0 : Int32)), (0, .ref (a this)), (1, .int v1), (2, .int v2)]) hx hb dX0_promiseMoreThan_1 rfl hl (by decide) rfl (fun ls hl => ?_)
  exact w_X0_promiseMoreThan_L2 X hT 1000 _ _ _ _ hf hG (lv_sub hl [1, 2, 3, 0] rfl)
/-! X0_raiseClocks -/
set_option maxHeartbeats 4000000 in
set_option maxRecDepth 100000 in
theorem w_X0_raiseClocks_L2 {l : Launch} {dC : Nat → ClassId} {dI : Nat → Nat → Nat} {cy : Nat → ClassId} {a : Nat → Nat} {p : Program} {e : Env} {s : State} {m : MethodId} {args : Array Value} {below : List Frame} {meth : Method} {c : Code} (X : XU dC dI cy a p s m c args meth cX0_raiseClocks 3 RX0 none) {this : Nat} (hT : K0 this) {v1 : Int32} {o : Mem} : ∀ (n : Nat) (M : Mem) (v2 : Int32) (H : Heap) (locs : List Loc) (ls : Array Slot), f_X0_raiseClocks_L2 this v1 n M v2 = some o → GU dC dI cy a s.heap M H locs → lv_has ls 3 [(0, .ref (a this)), (1, .int v1), (2, .int v2)] → W p l e ({ frames := 1, cells := 0, slots := 0, locals := 40 } : Room) s m args below meth c H locs 0 0 (MQ below (QUv dC dI cy a o) args s 0 0 (AU a)) (F0 m 2 ls []) := by
  have hx := X.1.1
  have hb := X.1.2.1
  have hown := X.1.2.2.2.1
  have hts := X.1.2.2.2.2
  intro n
  induction n with
  | zero => intro M v2 H locs ls hf; cases hf
  | succ n ih =>
    intro M v2 H locs ls hf hG hl
    rw [f_X0_raiseClocks_L2] at hf
    refine lv_iload_n hx hb dX0_raiseClocks_2 rfl (lv_at hl 2 rfl) ?_
    refine lv_aload_n hx hb dX0_raiseClocks_3 rfl (lv_at hl 0 rfl) ?_
    refine gf_X0_33 X hG hT dX0_raiseClocks_4 ?_
    refine lv_icmp_ge (tgt := 32) hx hb dX0_raiseClocks_7 (by decide) (fun c1 => ?_) (fun c1 => ?_)
    · have hf := itep c1 hf
      obtain rfl := Option.some.inj hf
      exact mw_vret X hG dX0_raiseClocks_32
    · have hf := iten c1 hf
      refine lv_aload_n hx hb dX0_raiseClocks_10 rfl (lv_at hl 0 rfl) ?_
      refine gf_X0_24 X hG hT dX0_raiseClocks_11 ?_
      refine lv_iload_n hx hb dX0_raiseClocks_14 rfl (lv_at hl 2 rfl) ?_
      refine lv_aload_n hx hb dX0_raiseClocks_15 rfl (lv_at hl 0 rfl) ?_
      refine gf_X0_24 X hG hT dX0_raiseClocks_16 ?_
      refine lv_iload_n hx hb dX0_raiseClocks_19 rfl (lv_at hl 2 rfl) ?_
      obtain ⟨hi2, hf⟩ := ck_some hf
      refine mw_iald X hG hT.2.2.2.2.2.1 hi2 dX0_raiseClocks_20 ?_
      refine lv_iload_n hx hb dX0_raiseClocks_21 rfl (lv_at hl 1 rfl) ?_
      refine va_mmax hx hb (X.1.2.2.1.trans hl.1.symm) hown (hts _ wd_ml_X0_43) (hts _ wd_st_Lib_Math_max_name) (hts _ wd_ini_java_lang_Math) (hts _ wd_co_Lib_Math_max_name) (Nat.le_of_ble_eq_true rfl) (Nat.le_of_ble_eq_true rfl) (Nat.zero_le _) (Nat.zero_le _) dX0_raiseClocks_22 ?_
      obtain ⟨hi3, hf⟩ := ck_some hf
      refine mw_iast X hG hT.2.2.2.2.2.1 hi3 dX0_raiseClocks_25 (fun M4 H locs eM4 hG => ?_)
      have hf := nm_of eM4 hf
      obtain ⟨x5, ex5⟩ : ∃ y : Int32, y = v2 + (1 : Int32) := ⟨_, rfl⟩
      have hf := nm_of ex5 hf
      refine lv_iinc (v := x5) (lv' := [(2, .int x5), (0, .ref (a this)), (1, .int v1)]) hx hb dX0_raiseClocks_26 hl (k := 2) rfl (by rw [ex5]; rfl) (by decide) rfl (fun ls hl => ?_)
      refine lv_goto (tgt := 2) hx hb dX0_raiseClocks_29 (by decide) ?_
      exact ih _ _ _ _ _ hf hG (lv_sub hl [1, 2, 0] rfl)
set_option maxHeartbeats 4000000 in
set_option maxRecDepth 100000 in
theorem c_X0_raiseClocks (l : Launch) (dC : Nat → ClassId) (dI : Nat → Nat → Nat) (cy : Nat → ClassId) (a : Nat → Nat) (ha : injU a) (this : Nat) (hT : K0 this) (M : Mem) (v1 : Int32) {o : Mem} (hf : f_X0_raiseClocks M this v1 = some o) : Met l yX0_raiseClocks (wsU yX0_raiseClocks cX0_raiseClocks 3 none) ({ frames := 1, cells := 0, slots := 0, locals := 40 } : Room) (PU dC dI cy a [.ref (a this), .int v1] M) (QUv dC dI cy a o) 0 0 (AU a) := by
  refine mw_met (by decide) ha (Nat.le_of_ble_eq_true rfl) ?_
  intro p e s m below meth c ls X hG hl
  have hl : lv_has ls 3 [(0, .ref (a this)), (1, .int v1)] := hl
  have X : XU dC dI cy a p s m c [.ref (a this), .int v1].toArray meth cX0_raiseClocks 3 RX0 none := X
  have hx := X.1.1
  have hb := X.1.2.1
  have hown := X.1.2.2.2.1
  have hts := X.1.2.2.2.2
  rw [f_X0_raiseClocks] at hf
  refine lv_iconst (v := 0) hx hb dX0_raiseClocks_0 (by decide) ?_
  refine lv_istore_n (lv' := [(2, .int (0 : Int32)), (0, .ref (a this)), (1, .int v1)]) hx hb dX0_raiseClocks_1 rfl hl (by decide) rfl (fun ls hl => ?_)
  exact w_X0_raiseClocks_L2 X hT 1000 _ _ _ _ _ hf hG (lv_sub hl [1, 2, 0] rfl)
/-! X0_reachedWithoutPromise -/
set_option maxHeartbeats 4000000 in
set_option maxRecDepth 100000 in
theorem w_X0_reachedWithoutPromise_L82 {l : Launch} {dC : Nat → ClassId} {dI : Nat → Nat → Nat} {cy : Nat → ClassId} {a : Nat → Nat} {p : Program} {e : Env} {s : State} {m : MethodId} {args : Array Value} {below : List Frame} {meth : Method} {c : Code} (X : XU dC dI cy a p s m c args meth cX0_reachedWithoutPromise 7 RX0 (some .int)) {M : Mem} {this : Nat} (hT : K0 this) {v1 : Int32} {v2 : Int32} {v3 : Int32} {v4 : Int32} {v5 : Int32} {o : Int32} {k5 : Int32 → Int32 → Option Int32} (hk5 : ∀ (v3 : Int32) (v4 : Int32) (H : Heap) (locs : List Loc) (ls : Array Slot), k5 v3 v4 = some o → GU dC dI cy a s.heap M H locs → lv_has ls 7 [(0, .ref (a this)), (1, .int v1), (2, .int v2), (3, .int v3), (4, .int v4)] → W p l e ({ frames := 0, cells := 0, slots := 0, locals := 0 } : Room) s m args below meth c H locs 0 0 (MQ below (QUi dC dI cy a o M) args s 0 0 (AU a)) (F0 m 5 ls [])) {k14 : Int32 → Int32 → Option Int32} (hk14 : ∀ (v3 : Int32) (v5 : Int32) (H : Heap) (locs : List Loc) (ls : Array Slot), k14 v3 v5 = some o → GU dC dI cy a s.heap M H locs → lv_has ls 7 [(0, .ref (a this)), (1, .int v1), (2, .int v2), (3, .int v3), (4, .int v4), (5, .int v5)] → W p l e ({ frames := 0, cells := 0, slots := 0, locals := 0 } : Room) s m args below meth c H locs 0 0 (MQ below (QUi dC dI cy a o M) args s 0 0 (AU a)) (F0 m 14 ls [])) {H : Heap} {locs : List Loc} {ls : Array Slot} (hf : f_X0_reachedWithoutPromise_L82 k5 k14 M this v1 v2 v3 v4 v5 = some o) (hG : GU dC dI cy a s.heap M H locs) (hl : lv_has ls 7 [(0, .ref (a this)), (1, .int v1), (2, .int v2), (3, .int v3), (4, .int v4), (5, .int v5)]) : W p l e ({ frames := 0, cells := 0, slots := 0, locals := 0 } : Room) s m args below meth c H locs 0 0 (MQ below (QUi dC dI cy a o M) args s 0 0 (AU a)) (F0 m 82 ls []) := by
  have hx := X.1.1
  have hb := X.1.2.1
  have hown := X.1.2.2.2.1
  have hts := X.1.2.2.2.2
  rw [f_X0_reachedWithoutPromise_L82] at hf
  obtain ⟨x1, ex1⟩ : ∃ y : Int32, y = v5 + (1 : Int32) := ⟨_, rfl⟩
  have hf := nm_of ex1 hf
  refine lv_iinc (v := x1) (lv' := [(5, .int x1), (0, .ref (a this)), (1, .int v1), (2, .int v2), (3, .int v3), (4, .int v4)]) hx hb dX0_reachedWithoutPromise_82 hl (k := 5) rfl (by rw [ex1]; rfl) (by decide) rfl (fun ls hl => ?_)
  refine lv_goto (tgt := 14) hx hb dX0_reachedWithoutPromise_85 (by decide) ?_
  exact hk14 _ _ _ _ _ hf hG (lv_sub hl [1, 2, 3, 4, 5, 0] rfl)
set_option maxHeartbeats 4000000 in
set_option maxRecDepth 100000 in
theorem w_X0_reachedWithoutPromise_L53 {l : Launch} {dC : Nat → ClassId} {dI : Nat → Nat → Nat} {cy : Nat → ClassId} {a : Nat → Nat} {p : Program} {e : Env} {s : State} {m : MethodId} {args : Array Value} {below : List Frame} {meth : Method} {c : Code} (X : XU dC dI cy a p s m c args meth cX0_reachedWithoutPromise 7 RX0 (some .int)) {M : Mem} {this : Nat} (hT : K0 this) {v1 : Int32} {v2 : Int32} {v3 : Int32} {v4 : Int32} {v5 : Int32} {s0 : Int32} {o : Int32} {k5 : Int32 → Int32 → Option Int32} (hk5 : ∀ (v3 : Int32) (v4 : Int32) (H : Heap) (locs : List Loc) (ls : Array Slot), k5 v3 v4 = some o → GU dC dI cy a s.heap M H locs → lv_has ls 7 [(0, .ref (a this)), (1, .int v1), (2, .int v2), (3, .int v3), (4, .int v4)] → W p l e ({ frames := 0, cells := 0, slots := 0, locals := 0 } : Room) s m args below meth c H locs 0 0 (MQ below (QUi dC dI cy a o M) args s 0 0 (AU a)) (F0 m 5 ls [])) {k14 : Int32 → Int32 → Option Int32} (hk14 : ∀ (v3 : Int32) (v5 : Int32) (H : Heap) (locs : List Loc) (ls : Array Slot), k14 v3 v5 = some o → GU dC dI cy a s.heap M H locs → lv_has ls 7 [(0, .ref (a this)), (1, .int v1), (2, .int v2), (3, .int v3), (4, .int v4), (5, .int v5)] → W p l e ({ frames := 0, cells := 0, slots := 0, locals := 0 } : Room) s m args below meth c H locs 0 0 (MQ below (QUi dC dI cy a o M) args s 0 0 (AU a)) (F0 m 14 ls [])) {H : Heap} {locs : List Loc} {ls : Array Slot} (hf : f_X0_reachedWithoutPromise_L53 k5 k14 M this v1 v2 v3 v4 v5 s0 = some o) (hG : GU dC dI cy a s.heap M H locs) (hl : lv_has ls 7 [(0, .ref (a this)), (1, .int v1), (2, .int v2), (3, .int v3), (4, .int v4), (5, .int v5)]) : W p l e ({ frames := 0, cells := 0, slots := 0, locals := 0 } : Room) s m args below meth c H locs 0 0 (MQ below (QUi dC dI cy a o M) args s 0 0 (AU a)) (F0 m 53 ls [.int s0]) := by
  have hx := X.1.1
  have hb := X.1.2.1
  have hown := X.1.2.2.2.1
  have hts := X.1.2.2.2.2
  rw [f_X0_reachedWithoutPromise_L53] at hf
  refine lv_istore (lv' := [(6, .int s0), (0, .ref (a this)), (1, .int v1), (2, .int v2), (3, .int v3), (4, .int v4), (5, .int v5)]) hx hb dX0_reachedWithoutPromise_53 hl (by decide) rfl (fun ls hl => ?_)
  refine lv_aload_n hx hb dX0_reachedWithoutPromise_55 rfl (lv_at hl 1 rfl) ?_
  refine gf_X0_18 X hG hT dX0_reachedWithoutPromise_56 ?_
  refine lv_iload hx hb dX0_reachedWithoutPromise_59 (lv_at hl 6 rfl) ?_
  obtain ⟨hi1, hf⟩ := ck_some hf
  refine mw_iald X hG hT.2.2.2.1 hi1 dX0_reachedWithoutPromise_61 ?_
  refine lv_if_ne (tgt := 82) hx hb dX0_reachedWithoutPromise_62 (by decide) (fun c2 => ?_) (fun c2 => ?_)
  · have hf := iten c2 hf
    exact w_X0_reachedWithoutPromise_L82 X hT hk5 hk14 hf hG (lv_sub hl [1, 2, 3, 4, 5, 6] rfl)
  · have hf := itep c2 hf
    refine lv_iload hx hb dX0_reachedWithoutPromise_65 (lv_at hl 0 rfl) ?_
    refine lv_if_eq (tgt := 82) hx hb dX0_reachedWithoutPromise_67 (by decide) (fun c3 => ?_) (fun c3 => ?_)
    · have hf := itep c3 hf
      exact w_X0_reachedWithoutPromise_L82 X hT hk5 hk14 hf hG (lv_sub hl [1, 2, 3, 4, 5, 6] rfl)
    · have hf := iten c3 hf
      refine lv_iload_n hx hb dX0_reachedWithoutPromise_70 rfl (lv_at hl 4 rfl) ?_
      refine lv_iconst (v := 1) hx hb dX0_reachedWithoutPromise_71 (by decide) ?_
      refine lv_aload_n hx hb dX0_reachedWithoutPromise_72 rfl (lv_at hl 1 rfl) ?_
      refine gf_X0_15 X hG hT dX0_reachedWithoutPromise_73 ?_
      refine lv_iload hx hb dX0_reachedWithoutPromise_76 (lv_at hl 6 rfl) ?_
      obtain ⟨hi4, hf⟩ := ck_some hf
      refine mw_iald X hG hT.2.2.1 hi4 dX0_reachedWithoutPromise_78 ?_
      refine lv_ishl hx hb dX0_reachedWithoutPromise_79 ?_
      refine lv_ior hx hb dX0_reachedWithoutPromise_80 ?_
      refine lv_topi (fun x5 ex5 => ?_)
      have hf := nm_of ex5 hf
      refine lv_istore_n (lv' := [(3, .int x5), (6, .int s0), (0, .ref (a this)), (1, .int v1), (2, .int v2), (4, .int v4), (5, .int v5)]) hx hb dX0_reachedWithoutPromise_81 rfl hl (by decide) rfl (fun ls hl => ?_)
      exact w_X0_reachedWithoutPromise_L82 X hT hk5 hk14 hf hG (lv_sub hl [2, 3, 4, 0, 5, 6] rfl)
set_option maxHeartbeats 4000000 in
set_option maxRecDepth 100000 in
theorem w_X0_reachedWithoutPromise_L48 {l : Launch} {dC : Nat → ClassId} {dI : Nat → Nat → Nat} {cy : Nat → ClassId} {a : Nat → Nat} {p : Program} {e : Env} {s : State} {m : MethodId} {args : Array Value} {below : List Frame} {meth : Method} {c : Code} (X : XU dC dI cy a p s m c args meth cX0_reachedWithoutPromise 7 RX0 (some .int)) {M : Mem} {this : Nat} (hT : K0 this) {v1 : Int32} {v2 : Int32} {v3 : Int32} {v4 : Int32} {v5 : Int32} {o : Int32} {k5 : Int32 → Int32 → Option Int32} (hk5 : ∀ (v3 : Int32) (v4 : Int32) (H : Heap) (locs : List Loc) (ls : Array Slot), k5 v3 v4 = some o → GU dC dI cy a s.heap M H locs → lv_has ls 7 [(0, .ref (a this)), (1, .int v1), (2, .int v2), (3, .int v3), (4, .int v4)] → W p l e ({ frames := 0, cells := 0, slots := 0, locals := 0 } : Room) s m args below meth c H locs 0 0 (MQ below (QUi dC dI cy a o M) args s 0 0 (AU a)) (F0 m 5 ls [])) {k14 : Int32 → Int32 → Option Int32} (hk14 : ∀ (v3 : Int32) (v5 : Int32) (H : Heap) (locs : List Loc) (ls : Array Slot), k14 v3 v5 = some o → GU dC dI cy a s.heap M H locs → lv_has ls 7 [(0, .ref (a this)), (1, .int v1), (2, .int v2), (3, .int v3), (4, .int v4), (5, .int v5)] → W p l e ({ frames := 0, cells := 0, slots := 0, locals := 0 } : Room) s m args below meth c H locs 0 0 (MQ below (QUi dC dI cy a o M) args s 0 0 (AU a)) (F0 m 14 ls [])) {H : Heap} {locs : List Loc} {ls : Array Slot} (hf : f_X0_reachedWithoutPromise_L48 k5 k14 M this v1 v2 v3 v4 v5 = some o) (hG : GU dC dI cy a s.heap M H locs) (hl : lv_has ls 7 [(0, .ref (a this)), (1, .int v1), (2, .int v2), (3, .int v3), (4, .int v4), (5, .int v5)]) : W p l e ({ frames := 0, cells := 0, slots := 0, locals := 0 } : Room) s m args below meth c H locs 0 0 (MQ below (QUi dC dI cy a o M) args s 0 0 (AU a)) (F0 m 48 ls []) := by
  have hx := X.1.1
  have hb := X.1.2.1
  have hown := X.1.2.2.2.1
  have hts := X.1.2.2.2.2
  rw [f_X0_reachedWithoutPromise_L48] at hf
  refine lv_iconst (v := 1) hx hb dX0_reachedWithoutPromise_48 (by decide) ?_
  refine lv_goto (tgt := 53) hx hb dX0_reachedWithoutPromise_49 (by decide) ?_
  exact w_X0_reachedWithoutPromise_L53 X hT hk5 hk14 hf hG (lv_sub hl [0, 1, 2, 3, 4, 5] rfl)
set_option maxHeartbeats 4000000 in
set_option maxRecDepth 100000 in
theorem w_X0_reachedWithoutPromise_L88 {l : Launch} {dC : Nat → ClassId} {dI : Nat → Nat → Nat} {cy : Nat → ClassId} {a : Nat → Nat} {p : Program} {e : Env} {s : State} {m : MethodId} {args : Array Value} {below : List Frame} {meth : Method} {c : Code} (X : XU dC dI cy a p s m c args meth cX0_reachedWithoutPromise 7 RX0 (some .int)) {M : Mem} {this : Nat} (hT : K0 this) {v1 : Int32} {v2 : Int32} {v3 : Int32} {v4 : Int32} {o : Int32} {k5 : Int32 → Int32 → Option Int32} (hk5 : ∀ (v3 : Int32) (v4 : Int32) (H : Heap) (locs : List Loc) (ls : Array Slot), k5 v3 v4 = some o → GU dC dI cy a s.heap M H locs → lv_has ls 7 [(0, .ref (a this)), (1, .int v1), (2, .int v2), (3, .int v3), (4, .int v4)] → W p l e ({ frames := 0, cells := 0, slots := 0, locals := 0 } : Room) s m args below meth c H locs 0 0 (MQ below (QUi dC dI cy a o M) args s 0 0 (AU a)) (F0 m 5 ls [])) {H : Heap} {locs : List Loc} {ls : Array Slot} (hf : f_X0_reachedWithoutPromise_L88 k5 M this v1 v2 v3 v4 = some o) (hG : GU dC dI cy a s.heap M H locs) (hl : lv_has ls 7 [(0, .ref (a this)), (1, .int v1), (2, .int v2), (3, .int v3), (4, .int v4)]) : W p l e ({ frames := 0, cells := 0, slots := 0, locals := 0 } : Room) s m args below meth c H locs 0 0 (MQ below (QUi dC dI cy a o M) args s 0 0 (AU a)) (F0 m 88 ls []) := by
  have hx := X.1.1
  have hb := X.1.2.1
  have hown := X.1.2.2.2.1
  have hts := X.1.2.2.2.2
  rw [f_X0_reachedWithoutPromise_L88] at hf
  obtain ⟨x1, ex1⟩ : ∃ y : Int32, y = v4 + (1 : Int32) := ⟨_, rfl⟩
  have hf := nm_of ex1 hf
  refine lv_iinc (v := x1) (lv' := [(4, .int x1), (0, .ref (a this)), (1, .int v1), (2, .int v2), (3, .int v3)]) hx hb dX0_reachedWithoutPromise_88 hl (k := 4) rfl (by rw [ex1]; rfl) (by decide) rfl (fun ls hl => ?_)
  refine lv_goto (tgt := 5) hx hb dX0_reachedWithoutPromise_91 (by decide) ?_
  exact hk5 _ _ _ _ _ hf hG (lv_sub hl [1, 2, 3, 4, 0] rfl)
set_option maxHeartbeats 4000000 in
set_option maxRecDepth 100000 in
theorem w_X0_reachedWithoutPromise_L14 {l : Launch} {dC : Nat → ClassId} {dI : Nat → Nat → Nat} {cy : Nat → ClassId} {a : Nat → Nat} {p : Program} {e : Env} {s : State} {m : MethodId} {args : Array Value} {below : List Frame} {meth : Method} {c : Code} (X : XU dC dI cy a p s m c args meth cX0_reachedWithoutPromise 7 RX0 (some .int)) {M : Mem} {this : Nat} (hT : K0 this) {v1 : Int32} {v2 : Int32} {v4 : Int32} {o : Int32} {k5 : Int32 → Int32 → Option Int32} (hk5 : ∀ (v3 : Int32) (v4 : Int32) (H : Heap) (locs : List Loc) (ls : Array Slot), k5 v3 v4 = some o → GU dC dI cy a s.heap M H locs → lv_has ls 7 [(0, .ref (a this)), (1, .int v1), (2, .int v2), (3, .int v3), (4, .int v4)] → W p l e ({ frames := 0, cells := 0, slots := 0, locals := 0 } : Room) s m args below meth c H locs 0 0 (MQ below (QUi dC dI cy a o M) args s 0 0 (AU a)) (F0 m 5 ls [])) : ∀ (n : Nat) (v3 : Int32) (v5 : Int32) (H : Heap) (locs : List Loc) (ls : Array Slot), f_X0_reachedWithoutPromise_L14 k5 M this v1 v2 v4 n v3 v5 = some o → GU dC dI cy a s.heap M H locs → lv_has ls 7 [(0, .ref (a this)), (1, .int v1), (2, .int v2), (3, .int v3), (4, .int v4), (5, .int v5)] → W p l e ({ frames := 0, cells := 0, slots := 0, locals := 0 } : Room) s m args below meth c H locs 0 0 (MQ below (QUi dC dI cy a o M) args s 0 0 (AU a)) (F0 m 14 ls []) := by
  have hx := X.1.1
  have hb := X.1.2.1
  have hown := X.1.2.2.2.1
  have hts := X.1.2.2.2.2
  intro n
  induction n with
  | zero => intro v3 v5 H locs ls hf; cases hf
  | succ n ih =>
    intro v3 v5 H locs ls hf hG hl
    rw [f_X0_reachedWithoutPromise_L14] at hf
    refine lv_iload hx hb dX0_reachedWithoutPromise_14 (lv_at hl 5 rfl) ?_
    refine lv_aload_n hx hb dX0_reachedWithoutPromise_16 rfl (lv_at hl 0 rfl) ?_
    refine gf_X0_33 X hG hT dX0_reachedWithoutPromise_17 ?_
    refine lv_icmp_ge (tgt := 88) hx hb dX0_reachedWithoutPromise_20 (by decide) (fun c1 => ?_) (fun c1 => ?_)
    · have hf := itep c1 hf
      exact w_X0_reachedWithoutPromise_L88 X hT hk5 hf hG (lv_sub hl [0, 1, 2, 3, 4] rfl)
    · have hf := iten c1 hf
      refine lv_aload_n hx hb dX0_reachedWithoutPromise_23 rfl (lv_at hl 0 rfl) ?_
      refine gf_X0_9 X hG hT dX0_reachedWithoutPromise_24 ?_
      refine lv_iload hx hb dX0_reachedWithoutPromise_27 (lv_at hl 5 rfl) ?_
      obtain ⟨hi2, hf⟩ := ck_some hf
      refine mw_iald X hG hT.2.1 hi2 dX0_reachedWithoutPromise_29 ?_
      refine lv_iload_n hx hb dX0_reachedWithoutPromise_30 rfl (lv_at hl 1 rfl) ?_
      refine lv_icmp_eq (tgt := 48) hx hb dX0_reachedWithoutPromise_31 (by decide) (fun c3 => ?_) (fun c3 => ?_)
      · have hf := itep c3 hf
        exact w_X0_reachedWithoutPromise_L48 X hT hk5 ih hf hG (lv_sub hl [0, 1, 2, 3, 4, 5] rfl)
      · have hf := iten c3 hf
        refine lv_iload_n hx hb dX0_reachedWithoutPromise_34 rfl (lv_at hl 3 rfl) ?_
        refine lv_iconst (v := 1) hx hb dX0_reachedWithoutPromise_35 (by decide) ?_
        refine lv_aload_n hx hb dX0_reachedWithoutPromise_36 rfl (lv_at hl 0 rfl) ?_
        refine gf_X0_9 X hG hT dX0_reachedWithoutPromise_37 ?_
        refine lv_iload hx hb dX0_reachedWithoutPromise_40 (lv_at hl 5 rfl) ?_
        obtain ⟨hi4, hf⟩ := ck_some hf
        refine mw_iald X hG hT.2.1 hi4 dX0_reachedWithoutPromise_42 ?_
        refine lv_ishl hx hb dX0_reachedWithoutPromise_43 ?_
        refine lv_iand hx hb dX0_reachedWithoutPromise_44 ?_
        refine lv_if_eq (tgt := 52) hx hb dX0_reachedWithoutPromise_45 (by decide) (fun c5 => ?_) (fun c5 => ?_)
        · have hf := itep c5 hf
          refine lv_iconst (v := 0) hx hb dX0_reachedWithoutPromise_52 (by decide) ?_
          exact w_X0_reachedWithoutPromise_L53 X hT hk5 ih hf hG (lv_sub hl [0, 1, 2, 3, 4, 5] rfl)
        · have hf := iten c5 hf
          exact w_X0_reachedWithoutPromise_L48 X hT hk5 ih hf hG (lv_sub hl [0, 1, 2, 3, 4, 5] rfl)
set_option maxHeartbeats 4000000 in
set_option maxRecDepth 100000 in
theorem w_X0_reachedWithoutPromise_L5 {l : Launch} {dC : Nat → ClassId} {dI : Nat → Nat → Nat} {cy : Nat → ClassId} {a : Nat → Nat} {p : Program} {e : Env} {s : State} {m : MethodId} {args : Array Value} {below : List Frame} {meth : Method} {c : Code} (X : XU dC dI cy a p s m c args meth cX0_reachedWithoutPromise 7 RX0 (some .int)) {M : Mem} {this : Nat} (hT : K0 this) {v1 : Int32} {v2 : Int32} {o : Int32} : ∀ (n : Nat) (v3 : Int32) (v4 : Int32) (H : Heap) (locs : List Loc) (ls : Array Slot), f_X0_reachedWithoutPromise_L5 M this v1 v2 n v3 v4 = some o → GU dC dI cy a s.heap M H locs → lv_has ls 7 [(0, .ref (a this)), (1, .int v1), (2, .int v2), (3, .int v3), (4, .int v4)] → W p l e ({ frames := 0, cells := 0, slots := 0, locals := 0 } : Room) s m args below meth c H locs 0 0 (MQ below (QUi dC dI cy a o M) args s 0 0 (AU a)) (F0 m 5 ls []) := by
  have hx := X.1.1
  have hb := X.1.2.1
  have hown := X.1.2.2.2.1
  have hts := X.1.2.2.2.2
  intro n
  induction n with
  | zero => intro v3 v4 H locs ls hf; cases hf
  | succ n ih =>
    intro v3 v4 H locs ls hf hG hl
    rw [f_X0_reachedWithoutPromise_L5] at hf
    refine lv_iload hx hb dX0_reachedWithoutPromise_5 (lv_at hl 4 rfl) ?_
    refine lv_iload_n hx hb dX0_reachedWithoutPromise_7 rfl (lv_at hl 2 rfl) ?_
    refine lv_icmp_ge (tgt := 94) hx hb dX0_reachedWithoutPromise_8 (by decide) (fun c1 => ?_) (fun c1 => ?_)
    · have hf := itep c1 hf
      refine lv_iload_n hx hb dX0_reachedWithoutPromise_94 rfl (lv_at hl 3 rfl) ?_
      obtain rfl := Option.some.inj hf
      exact mw_iret X hG dX0_reachedWithoutPromise_95
    · have hf := iten c1 hf
      refine lv_iconst (v := 0) hx hb dX0_reachedWithoutPromise_11 (by decide) ?_
      refine lv_istore (lv' := [(5, .int (0 : Int32)), (0, .ref (a this)), (1, .int v1), (2, .int v2), (3, .int v3), (4, .int v4)]) hx hb dX0_reachedWithoutPromise_12 hl (by decide) rfl (fun ls hl => ?_)
      exact w_X0_reachedWithoutPromise_L14 X hT ih 1000 _ _ _ _ _ hf hG (lv_sub hl [1, 2, 3, 4, 5, 0] rfl)
set_option maxHeartbeats 4000000 in
set_option maxRecDepth 100000 in
theorem c_X0_reachedWithoutPromise (l : Launch) (dC : Nat → ClassId) (dI : Nat → Nat → Nat) (cy : Nat → ClassId) (a : Nat → Nat) (ha : injU a) (this : Nat) (hT : K0 this) (M : Mem) (v1 : Int32) (v2 : Int32) {o : Int32} (hf : f_X0_reachedWithoutPromise M this v1 v2 = some o) : Met l yX0_reachedWithoutPromise (wsU yX0_reachedWithoutPromise cX0_reachedWithoutPromise 7 (some .int)) ({ frames := 0, cells := 0, slots := 0, locals := 0 } : Room) (PU dC dI cy a [.ref (a this), .int v1, .int v2] M) (QUi dC dI cy a o M) 0 0 (AU a) := by
  refine mw_met (by decide) ha (Nat.le_of_ble_eq_true rfl) ?_
  intro p e s m below meth c ls X hG hl
  have hl : lv_has ls 7 [(0, .ref (a this)), (1, .int v1), (2, .int v2)] := hl
  have X : XU dC dI cy a p s m c [.ref (a this), .int v1, .int v2].toArray meth cX0_reachedWithoutPromise 7 RX0 (some .int) := X
  have hx := X.1.1
  have hb := X.1.2.1
  have hown := X.1.2.2.2.1
  have hts := X.1.2.2.2.2
  rw [f_X0_reachedWithoutPromise] at hf
  refine lv_iconst (v := 0) hx hb dX0_reachedWithoutPromise_0 (by decide) ?_
  refine lv_istore_n (lv' := [(3, .int (0 : Int32)), (0, .ref (a this)), (1, .int v1), (2, .int v2)]) hx hb dX0_reachedWithoutPromise_1 rfl hl (by decide) rfl (fun ls hl => ?_)
  refine lv_iconst (v := 0) hx hb dX0_reachedWithoutPromise_2 (by decide) ?_
  refine lv_istore (lv' := [(4, .int (0 : Int32)), (3, .int (0 : Int32)), (0, .ref (a this)), (1, .int v1), (2, .int v2)]) hx hb dX0_reachedWithoutPromise_3 hl (by decide) rfl (fun ls hl => ?_)
  exact w_X0_reachedWithoutPromise_L5 X hT 1000 _ _ _ _ _ hf hG (lv_sub hl [2, 3, 4, 1, 0] rfl)
/-! X0_hasRingWithoutPromise -/
set_option maxHeartbeats 4000000 in
set_option maxRecDepth 100000 in
theorem w_X0_hasRingWithoutPromise_L2 {l : Launch} {dC : Nat → ClassId} {dI : Nat → Nat → Nat} {cy : Nat → ClassId} {a : Nat → Nat} {p : Program} {e : Env} {s : State} {m : MethodId} {args : Array Value} {below : List Frame} {meth : Method} {c : Code} (X : XU dC dI cy a p s m c args meth cX0_hasRingWithoutPromise 3 RX0 (some .boolean)) {M : Mem} {this : Nat} (hT : K0 this) {v1 : Int32} {o : Int32} : ∀ (n : Nat) (v2 : Int32) (H : Heap) (locs : List Loc) (ls : Array Slot), f_X0_hasRingWithoutPromise_L2 M this v1 n v2 = some o → GU dC dI cy a s.heap M H locs → lv_has ls 3 [(0, .ref (a this)), (1, .int v1), (2, .int v2)] → W p l e ({ frames := 1, cells := 0, slots := 0, locals := 26 } : Room) s m args below meth c H locs 0 0 (MQ below (QUi dC dI cy a o M) args s 0 0 (AU a)) (F0 m 2 ls []) := by
  have hx := X.1.1
  have hb := X.1.2.1
  have hown := X.1.2.2.2.1
  have hts := X.1.2.2.2.2
  intro n
  induction n with
  | zero => intro v2 H locs ls hf; cases hf
  | succ n ih =>
    intro v2 H locs ls hf hG hl
    rw [f_X0_hasRingWithoutPromise_L2] at hf
    refine lv_iload_n hx hb dX0_hasRingWithoutPromise_2 rfl (lv_at hl 2 rfl) ?_
    refine lv_iload_n hx hb dX0_hasRingWithoutPromise_3 rfl (lv_at hl 1 rfl) ?_
    refine lv_icmp_ge (tgt := 28) hx hb dX0_hasRingWithoutPromise_4 (by decide) (fun c1 => ?_) (fun c1 => ?_)
    · have hf := itep c1 hf
      refine lv_iconst (v := 0) hx hb dX0_hasRingWithoutPromise_28 (by decide) ?_
      obtain rfl := Option.some.inj hf
      exact mw_zret X hG (by decide) dX0_hasRingWithoutPromise_29
    · have hf := iten c1 hf
      refine lv_aload_n hx hb dX0_hasRingWithoutPromise_7 rfl (lv_at hl 0 rfl) ?_
      refine lv_iload_n hx hb dX0_hasRingWithoutPromise_8 rfl (lv_at hl 2 rfl) ?_
      refine lv_iload_n hx hb dX0_hasRingWithoutPromise_9 rfl (lv_at hl 1 rfl) ?_
      obtain ⟨x2, hr3, hf⟩ := bd_some hf
      refine mw_callVi (rest := []) X hG hT.1 rfl (c_X0_reachedWithoutPromise l dC dI cy a X.2.2.1 this hT M v2 v1 hr3) (mw_cwV X 2 g_X0_49 hd_X0_reachedWithoutPromise ⟨rfl, rfl⟩ ⟨Nat.le_of_ble_eq_true rfl, Nat.le_of_ble_eq_true rfl⟩) rfl hl.1 rfl (Nat.le_of_ble_eq_true rfl) dX0_hasRingWithoutPromise_10 (fun H locs hG => ?_)
      refine lv_iconst (v := 1) hx hb dX0_hasRingWithoutPromise_13 (by decide) ?_
      refine lv_iload_n hx hb dX0_hasRingWithoutPromise_14 rfl (lv_at hl 2 rfl) ?_
      refine lv_ishl hx hb dX0_hasRingWithoutPromise_15 ?_
      refine lv_iand hx hb dX0_hasRingWithoutPromise_16 ?_
      refine lv_if_eq (tgt := 22) hx hb dX0_hasRingWithoutPromise_17 (by decide) (fun c4 => ?_) (fun c4 => ?_)
      · have hf := itep c4 hf
        obtain ⟨x5, ex5⟩ : ∃ y : Int32, y = v2 + (1 : Int32) := ⟨_, rfl⟩
        have hf := nm_of ex5 hf
        refine lv_iinc (v := x5) (lv' := [(2, .int x5), (0, .ref (a this)), (1, .int v1)]) hx hb dX0_hasRingWithoutPromise_22 hl (k := 2) rfl (by rw [ex5]; rfl) (by decide) rfl (fun ls hl => ?_)
        refine lv_goto (tgt := 2) hx hb dX0_hasRingWithoutPromise_25 (by decide) ?_
        exact ih _ _ _ _ hf hG (lv_sub hl [1, 2, 0] rfl)
      · have hf := iten c4 hf
        refine lv_iconst (v := 1) hx hb dX0_hasRingWithoutPromise_20 (by decide) ?_
        obtain rfl := Option.some.inj hf
        exact mw_zret X hG (by decide) dX0_hasRingWithoutPromise_21
set_option maxHeartbeats 4000000 in
set_option maxRecDepth 100000 in
theorem c_X0_hasRingWithoutPromise (l : Launch) (dC : Nat → ClassId) (dI : Nat → Nat → Nat) (cy : Nat → ClassId) (a : Nat → Nat) (ha : injU a) (this : Nat) (hT : K0 this) (M : Mem) (v1 : Int32) {o : Int32} (hf : f_X0_hasRingWithoutPromise M this v1 = some o) : Met l yX0_hasRingWithoutPromise (wsU yX0_hasRingWithoutPromise cX0_hasRingWithoutPromise 3 (some .boolean)) ({ frames := 1, cells := 0, slots := 0, locals := 26 } : Room) (PU dC dI cy a [.ref (a this), .int v1] M) (QUi dC dI cy a o M) 0 0 (AU a) := by
  refine mw_met (by decide) ha (Nat.le_of_ble_eq_true rfl) ?_
  intro p e s m below meth c ls X hG hl
  have hl : lv_has ls 3 [(0, .ref (a this)), (1, .int v1)] := hl
  have X : XU dC dI cy a p s m c [.ref (a this), .int v1].toArray meth cX0_hasRingWithoutPromise 3 RX0 (some .boolean) := X
  have hx := X.1.1
  have hb := X.1.2.1
  have hown := X.1.2.2.2.1
  have hts := X.1.2.2.2.2
  rw [f_X0_hasRingWithoutPromise] at hf
  refine lv_iconst (v := 0) hx hb dX0_hasRingWithoutPromise_0 (by decide) ?_
  refine lv_istore_n (lv' := [(2, .int (0 : Int32)), (0, .ref (a this)), (1, .int v1)]) hx hb dX0_hasRingWithoutPromise_1 rfl hl (by decide) rfl (fun ls hl => ?_)
  exact w_X0_hasRingWithoutPromise_L2 X hT 1000 _ _ _ _ hf hG (lv_sub hl [1, 2, 0] rfl)
/-! X1_clear -/
set_option maxHeartbeats 4000000 in
set_option maxRecDepth 100000 in
theorem c_X1_clear (l : Launch) (dC : Nat → ClassId) (dI : Nat → Nat → Nat) (cy : Nat → ClassId) (a : Nat → Nat) (ha : injU a) (this : Nat) (hT : K1 this) (M : Mem) {o : Mem} (hf : f_X1_clear M this = some o) : Met l yX1_clear (wsU yX1_clear cX1_clear 1 none) ({ frames := 0, cells := 0, slots := 0, locals := 0 } : Room) (PU dC dI cy a [.ref (a this)] M) (QUv dC dI cy a o) 0 0 (AU a) := by
  refine mw_met (by decide) ha (Nat.le_of_ble_eq_true rfl) ?_
  intro p e s m below meth c ls X hG hl
  have hl : lv_has ls 1 [(0, .ref (a this))] := hl
  have X : XU dC dI cy a p s m c [.ref (a this)].toArray meth cX1_clear 1 RX1 none := X
  have hx := X.1.1
  have hb := X.1.2.1
  have hown := X.1.2.2.2.1
  have hts := X.1.2.2.2.2
  rw [f_X1_clear] at hf
  refine lv_aload_n hx hb dX1_clear_0 rfl (lv_at hl 0 rfl) ?_
  refine lv_iconst (v := 0) hx hb dX1_clear_1 (by decide) ?_
  refine pf_X1_24 X hG hT dX1_clear_2 (fun M1 H locs eM1 hG => ?_)
  have hf := nm_of eM1 hf
  obtain rfl := Option.some.inj hf
  exact mw_vret X hG dX1_clear_5
/-! X1_add -/
set_option maxHeartbeats 4000000 in
set_option maxRecDepth 100000 in
theorem c_X1_add (l : Launch) (dC : Nat → ClassId) (dI : Nat → Nat → Nat) (cy : Nat → ClassId) (a : Nat → Nat) (ha : injU a) (this : Nat) (hT : K1 this) (M : Mem) (v1 : Int32) (v2 : Int32) (v3 : Int32) (v4 : Int32) {o : Mem} (hf : f_X1_add M this v1 v2 v3 v4 = some o) : Met l yX1_add (wsU yX1_add cX1_add 5 none) ({ frames := 0, cells := 0, slots := 0, locals := 0 } : Room) (PU dC dI cy a [.ref (a this), .int v1, .int v2, .int v3, .int v4] M) (QUv dC dI cy a o) 0 0 (AU a) := by
  refine mw_met (by decide) ha (Nat.le_of_ble_eq_true rfl) ?_
  intro p e s m below meth c ls X hG hl
  have hl : lv_has ls 5 [(0, .ref (a this)), (1, .int v1), (2, .int v2), (3, .int v3), (4, .int v4)] := hl
  have X : XU dC dI cy a p s m c [.ref (a this), .int v1, .int v2, .int v3, .int v4].toArray meth cX1_add 5 RX1 none := X
  have hx := X.1.1
  have hb := X.1.2.1
  have hown := X.1.2.2.2.1
  have hts := X.1.2.2.2.2
  rw [f_X1_add] at hf
  refine lv_aload_n hx hb dX1_add_0 rfl (lv_at hl 0 rfl) ?_
  refine gf_X1_24 X hG hT dX1_add_1 ?_
  refine lv_sipush (v := 200) hx hb dX1_add_4 (by decide) ?_
  refine lv_icmp_lt (tgt := 11) hx hb dX1_add_7 (by decide) (fun c1 => ?_) (fun c1 => ?_)
  · have hf := itep c1 hf
    refine lv_aload_n hx hb dX1_add_11 rfl (lv_at hl 0 rfl) ?_
    refine gf_X1_9 X hG hT dX1_add_12 ?_
    refine lv_aload_n hx hb dX1_add_15 rfl (lv_at hl 0 rfl) ?_
    refine gf_X1_24 X hG hT dX1_add_16 ?_
    refine lv_iload_n hx hb dX1_add_19 rfl (lv_at hl 1 rfl) ?_
    obtain ⟨hi2, hf⟩ := ck_some hf
    refine mw_iast X hG hT.2.1 hi2 dX1_add_20 (fun M3 H locs eM3 hG => ?_)
    have hf := nm_of eM3 hf
    refine lv_aload_n hx hb dX1_add_21 rfl (lv_at hl 0 rfl) ?_
    refine gf_X1_15 X hG hT dX1_add_22 ?_
    refine lv_aload_n hx hb dX1_add_25 rfl (lv_at hl 0 rfl) ?_
    refine gf_X1_24 X hG hT dX1_add_26 ?_
    refine lv_iload_n hx hb dX1_add_29 rfl (lv_at hl 2 rfl) ?_
    obtain ⟨hi4, hf⟩ := ck_some hf
    refine mw_iast X hG hT.2.2.1 hi4 dX1_add_30 (fun M5 H locs eM5 hG => ?_)
    have hf := nm_of eM5 hf
    refine lv_aload_n hx hb dX1_add_31 rfl (lv_at hl 0 rfl) ?_
    refine gf_X1_18 X hG hT dX1_add_32 ?_
    refine lv_aload_n hx hb dX1_add_35 rfl (lv_at hl 0 rfl) ?_
    refine gf_X1_24 X hG hT dX1_add_36 ?_
    refine lv_iload_n hx hb dX1_add_39 rfl (lv_at hl 3 rfl) ?_
    obtain ⟨hi6, hf⟩ := ck_some hf
    refine mw_iast X hG hT.2.2.2.1 hi6 dX1_add_40 (fun M7 H locs eM7 hG => ?_)
    have hf := nm_of eM7 hf
    refine lv_aload_n hx hb dX1_add_41 rfl (lv_at hl 0 rfl) ?_
    refine gf_X1_21 X hG hT dX1_add_42 ?_
    refine lv_aload_n hx hb dX1_add_45 rfl (lv_at hl 0 rfl) ?_
    refine gf_X1_24 X hG hT dX1_add_46 ?_
    refine lv_iload hx hb dX1_add_49 (lv_at hl 4 rfl) ?_
    obtain ⟨hi8, hf⟩ := ck_some hf
    refine mw_iast X hG hT.2.2.2.2 hi8 dX1_add_51 (fun M9 H locs eM9 hG => ?_)
    have hf := nm_of eM9 hf
    refine lv_aload_n hx hb dX1_add_52 rfl (lv_at hl 0 rfl) ?_
    refine lv_dup hx hb dX1_add_53 rfl ?_
    refine gf_X1_24 X hG hT dX1_add_54 ?_
    refine lv_iconst (v := 1) hx hb dX1_add_57 (by decide) ?_
    refine lv_iadd hx hb dX1_add_58 ?_
    refine pf_X1_24 X hG hT dX1_add_59 (fun M10 H locs eM10 hG => ?_)
    have hf := nm_of eM10 hf
    obtain rfl := Option.some.inj hf
    exact mw_vret X hG dX1_add_62
  · have hf := iten c1 hf
    obtain rfl := Option.some.inj hf
    exact mw_vret X hG dX1_add_10
end
