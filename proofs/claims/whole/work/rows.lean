section
-- ===== PART A: goes FIRST, ahead of the names: the tables' words, and 'selects' of the private methods out of them =====
/-- a private method of a class that the tables say can be made, by its rows of tables_1 -/
def lw_okq (q : MethodName × Nat) : Prop := (q.1.cls ≠ "java/lang/invoke/MethodHandle" ∧ q.1.cls ≠ "java/lang/invoke/VarHandle") ∧ Cond.instantiable q.1.cls q.2 ∈ tables_1 ∧ Cond.privateMethod q.1 ∈ tables_1 ∧ Cond.instanceMethod q.1 ∈ tables_1
theorem lw_p0 : lw_okq (⟨"HungryJury$Panel", "readJuror", "(LHungryJury$Text;I)I"⟩, 6) := ⟨⟨by decide +kernel, by decide +kernel⟩, List.mem_of_getElem? (i := 35) (by decide +kernel), List.mem_of_getElem? (i := 202) (by decide +kernel), List.mem_of_getElem? (i := 203) (by decide +kernel)⟩
theorem lw_p1 : lw_okq (⟨"HungryJury$Panel", "readPair", "(LHungryJury$Text;I)I"⟩, 6) := ⟨⟨by decide +kernel, by decide +kernel⟩, List.mem_of_getElem? (i := 35) (by decide +kernel), List.mem_of_getElem? (i := 206) (by decide +kernel), List.mem_of_getElem? (i := 207) (by decide +kernel)⟩
theorem lw_p2 : lw_okq (⟨"HungryJury$Panel", "hasPairLeft", "()Z"⟩, 6) := ⟨⟨by decide +kernel, by decide +kernel⟩, List.mem_of_getElem? (i := 35) (by decide +kernel), List.mem_of_getElem? (i := 210) (by decide +kernel), List.mem_of_getElem? (i := 211) (by decide +kernel)⟩
theorem lw_p3 : lw_okq (⟨"HungryJury$Panel", "pairsLeft", "(I)I"⟩, 6) := ⟨⟨by decide +kernel, by decide +kernel⟩, List.mem_of_getElem? (i := 35) (by decide +kernel), List.mem_of_getElem? (i := 214) (by decide +kernel), List.mem_of_getElem? (i := 215) (by decide +kernel)⟩
theorem lw_p4 : lw_okq (⟨"HungryJury", "isJuror", "(I)Z"⟩, 10) := ⟨⟨by decide +kernel, by decide +kernel⟩, List.mem_of_getElem? (i := 11) (by decide +kernel), List.mem_of_getElem? (i := 234) (by decide +kernel), List.mem_of_getElem? (i := 235) (by decide +kernel)⟩
theorem lw_p5 : lw_okq (⟨"HungryJury$Acts", "forgetOldest", "()V"⟩, 2) := ⟨⟨by decide +kernel, by decide +kernel⟩, List.mem_of_getElem? (i := 100) (by decide +kernel), List.mem_of_getElem? (i := 254) (by decide +kernel), List.mem_of_getElem? (i := 255) (by decide +kernel)⟩
theorem lw_p6 : lw_okq (⟨"HungryJury$Room", "carries", "(II)Z"⟩, 6) := ⟨⟨by decide +kernel, by decide +kernel⟩, List.mem_of_getElem? (i := 70) (by decide +kernel), List.mem_of_getElem? (i := 276) (by decide +kernel), List.mem_of_getElem? (i := 277) (by decide +kernel)⟩
theorem lw_p7 : lw_okq (⟨"HungryJury$Room", "growHungry", "()V"⟩, 6) := ⟨⟨by decide +kernel, by decide +kernel⟩, List.mem_of_getElem? (i := 70) (by decide +kernel), List.mem_of_getElem? (i := 280) (by decide +kernel), List.mem_of_getElem? (i := 281) (by decide +kernel)⟩
theorem lw_p8 : lw_okq (⟨"HungryJury$Room", "hungerOfHour", "(I)I"⟩, 6) := ⟨⟨by decide +kernel, by decide +kernel⟩, List.mem_of_getElem? (i := 70) (by decide +kernel), List.mem_of_getElem? (i := 285) (by decide +kernel), List.mem_of_getElem? (i := 286) (by decide +kernel)⟩
theorem lw_p9 : lw_okq (⟨"HungryJury$Room", "mustGiveIn", "(I)Z"⟩, 6) := ⟨⟨by decide +kernel, by decide +kernel⟩, List.mem_of_getElem? (i := 70) (by decide +kernel), List.mem_of_getElem? (i := 292) (by decide +kernel), List.mem_of_getElem? (i := 293) (by decide +kernel)⟩
theorem lw_p10 : lw_okq (⟨"HungryJury", "doAct", "(II)I"⟩, 10) := ⟨⟨by decide +kernel, by decide +kernel⟩, List.mem_of_getElem? (i := 11) (by decide +kernel), List.mem_of_getElem? (i := 302) (by decide +kernel), List.mem_of_getElem? (i := 303) (by decide +kernel)⟩
theorem lw_p11 : lw_okq (⟨"HungryJury", "fewestFor", "(II)I"⟩, 10) := ⟨⟨by decide +kernel, by decide +kernel⟩, List.mem_of_getElem? (i := 11) (by decide +kernel), List.mem_of_getElem? (i := 367) (by decide +kernel), List.mem_of_getElem? (i := 368) (by decide +kernel)⟩
theorem lw_p12 : lw_okq (⟨"HungryJury", "endAfter", "(II)I"⟩, 10) := ⟨⟨by decide +kernel, by decide +kernel⟩, List.mem_of_getElem? (i := 11) (by decide +kernel), List.mem_of_getElem? (i := 371) (by decide +kernel), List.mem_of_getElem? (i := 372) (by decide +kernel)⟩
theorem lw_p13 : lw_okq (⟨"HungryJury", "leastMoveFor", "(I)I"⟩, 10) := ⟨⟨by decide +kernel, by decide +kernel⟩, List.mem_of_getElem? (i := 11) (by decide +kernel), List.mem_of_getElem? (i := 383) (by decide +kernel), List.mem_of_getElem? (i := 384) (by decide +kernel)⟩
theorem lw_p14 : lw_okq (⟨"HungryJury", "isMove", "(I)Z"⟩, 10) := ⟨⟨by decide +kernel, by decide +kernel⟩, List.mem_of_getElem? (i := 11) (by decide +kernel), List.mem_of_getElem? (i := 387) (by decide +kernel), List.mem_of_getElem? (i := 388) (by decide +kernel)⟩
theorem lw_p15 : lw_okq (⟨"HungryJury", "endAfterMove", "(I)I"⟩, 10) := ⟨⟨by decide +kernel, by decide +kernel⟩, List.mem_of_getElem? (i := 11) (by decide +kernel), List.mem_of_getElem? (i := 391) (by decide +kernel), List.mem_of_getElem? (i := 392) (by decide +kernel)⟩
def lw_privs_1 : List (MethodName × Nat) := [(⟨"HungryJury$Panel", "readJuror", "(LHungryJury$Text;I)I"⟩, 6), (⟨"HungryJury$Panel", "readPair", "(LHungryJury$Text;I)I"⟩, 6), (⟨"HungryJury$Panel", "hasPairLeft", "()Z"⟩, 6), (⟨"HungryJury$Panel", "pairsLeft", "(I)I"⟩, 6), (⟨"HungryJury", "isJuror", "(I)Z"⟩, 10), (⟨"HungryJury$Acts", "forgetOldest", "()V"⟩, 2), (⟨"HungryJury$Room", "carries", "(II)Z"⟩, 6), (⟨"HungryJury$Room", "growHungry", "()V"⟩, 6), (⟨"HungryJury$Room", "hungerOfHour", "(I)I"⟩, 6), (⟨"HungryJury$Room", "mustGiveIn", "(I)Z"⟩, 6), (⟨"HungryJury", "doAct", "(II)I"⟩, 10), (⟨"HungryJury", "fewestFor", "(II)I"⟩, 10), (⟨"HungryJury", "endAfter", "(II)I"⟩, 10), (⟨"HungryJury", "leastMoveFor", "(I)I"⟩, 10), (⟨"HungryJury", "isMove", "(I)Z"⟩, 10), (⟨"HungryJury", "endAfterMove", "(I)I"⟩, 10)]
theorem lw_r1 : ∀ q ∈ lw_privs_1, lw_okq q := List.forall_mem_cons.mpr ⟨lw_p0, List.forall_mem_cons.mpr ⟨lw_p1, List.forall_mem_cons.mpr ⟨lw_p2, List.forall_mem_cons.mpr ⟨lw_p3, List.forall_mem_cons.mpr ⟨lw_p4, List.forall_mem_cons.mpr ⟨lw_p5, List.forall_mem_cons.mpr ⟨lw_p6, List.forall_mem_cons.mpr ⟨lw_p7, List.forall_mem_cons.mpr ⟨lw_p8, List.forall_mem_cons.mpr ⟨lw_p9, List.forall_mem_cons.mpr ⟨lw_p10, List.forall_mem_cons.mpr ⟨lw_p11, List.forall_mem_cons.mpr ⟨lw_p12, List.forall_mem_cons.mpr ⟨lw_p13, List.forall_mem_cons.mpr ⟨lw_p14, List.forall_mem_cons.mpr ⟨lw_p15, fun _ h => absurd h List.not_mem_nil⟩⟩⟩⟩⟩⟩⟩⟩⟩⟩⟩⟩⟩⟩⟩⟩
theorem lw_p16 : lw_okq (⟨"HungryJury", "fitsWhatIsSeen", "(I)Z"⟩, 10) := ⟨⟨by decide +kernel, by decide +kernel⟩, List.mem_of_getElem? (i := 11) (by decide +kernel), List.mem_of_getElem? (i := 420) (by decide +kernel), List.mem_of_getElem? (i := 421) (by decide +kernel)⟩
theorem lw_p17 : lw_okq (⟨"HungryJury", "endIsYesFrom", "(I)I"⟩, 10) := ⟨⟨by decide +kernel, by decide +kernel⟩, List.mem_of_getElem? (i := 11) (by decide +kernel), List.mem_of_getElem? (i := 443) (by decide +kernel), List.mem_of_getElem? (i := 444) (by decide +kernel)⟩
theorem lw_p18 : lw_okq (⟨"HungryJury", "isBestWait", "(IIII)Z"⟩, 10) := ⟨⟨by decide +kernel, by decide +kernel⟩, List.mem_of_getElem? (i := 11) (by decide +kernel), List.mem_of_getElem? (i := 459) (by decide +kernel), List.mem_of_getElem? (i := 460) (by decide +kernel)⟩
theorem lw_p19 : lw_okq (⟨"HungryJury", "lossOf", "(IIII)I"⟩, 10) := ⟨⟨by decide +kernel, by decide +kernel⟩, List.mem_of_getElem? (i := 11) (by decide +kernel), List.mem_of_getElem? (i := 463) (by decide +kernel), List.mem_of_getElem? (i := 464) (by decide +kernel)⟩
theorem lw_p20 : lw_okq (⟨"HungryJuryModel", "readText", "()I"⟩, 24) := ⟨⟨by decide +kernel, by decide +kernel⟩, List.mem_of_getElem? (i := 498) (by decide +kernel), List.mem_of_getElem? (i := 593) (by decide +kernel), List.mem_of_getElem? (i := 594) (by decide +kernel)⟩
theorem lw_p21 : lw_okq (⟨"HungryJuryModel", "figureOf", "(I)I"⟩, 24) := ⟨⟨by decide +kernel, by decide +kernel⟩, List.mem_of_getElem? (i := 498) (by decide +kernel), List.mem_of_getElem? (i := 597) (by decide +kernel), List.mem_of_getElem? (i := 598) (by decide +kernel)⟩
theorem lw_p22 : lw_okq (⟨"HungryJuryModel", "readPart", "(I)V"⟩, 24) := ⟨⟨by decide +kernel, by decide +kernel⟩, List.mem_of_getElem? (i := 498) (by decide +kernel), List.mem_of_getElem? (i := 605) (by decide +kernel), List.mem_of_getElem? (i := 606) (by decide +kernel)⟩
theorem lw_p23 : lw_okq (⟨"HungryJuryModel", "firstsLeft", "()I"⟩, 24) := ⟨⟨by decide +kernel, by decide +kernel⟩, List.mem_of_getElem? (i := 498) (by decide +kernel), List.mem_of_getElem? (i := 609) (by decide +kernel), List.mem_of_getElem? (i := 610) (by decide +kernel)⟩
theorem lw_p24 : lw_okq (⟨"HungryJuryModel", "left", "(I)I"⟩, 24) := ⟨⟨by decide +kernel, by decide +kernel⟩, List.mem_of_getElem? (i := 498) (by decide +kernel), List.mem_of_getElem? (i := 613) (by decide +kernel), List.mem_of_getElem? (i := 614) (by decide +kernel)⟩
theorem lw_p25 : lw_okq (⟨"HungryJuryModel", "isJuror", "(I)Z"⟩, 24) := ⟨⟨by decide +kernel, by decide +kernel⟩, List.mem_of_getElem? (i := 498) (by decide +kernel), List.mem_of_getElem? (i := 625) (by decide +kernel), List.mem_of_getElem? (i := 626) (by decide +kernel)⟩
theorem lw_p26 : lw_okq (⟨"HungryJuryModel", "keepAct", "()V"⟩, 24) := ⟨⟨by decide +kernel, by decide +kernel⟩, List.mem_of_getElem? (i := 498) (by decide +kernel), List.mem_of_getElem? (i := 633) (by decide +kernel), List.mem_of_getElem? (i := 634) (by decide +kernel)⟩
theorem lw_p27 : lw_okq (⟨"HungryJuryModel", "passOn", "(I)I"⟩, 24) := ⟨⟨by decide +kernel, by decide +kernel⟩, List.mem_of_getElem? (i := 498) (by decide +kernel), List.mem_of_getElem? (i := 637) (by decide +kernel), List.mem_of_getElem? (i := 638) (by decide +kernel)⟩
theorem lw_p28 : lw_okq (⟨"HungryJuryModel", "verdict", "(I)I"⟩, 24) := ⟨⟨by decide +kernel, by decide +kernel⟩, List.mem_of_getElem? (i := 498) (by decide +kernel), List.mem_of_getElem? (i := 641) (by decide +kernel), List.mem_of_getElem? (i := 642) (by decide +kernel)⟩
theorem lw_p29 : lw_okq (⟨"HungryJuryModel", "isThere", "(II)Z"⟩, 24) := ⟨⟨by decide +kernel, by decide +kernel⟩, List.mem_of_getElem? (i := 498) (by decide +kernel), List.mem_of_getElem? (i := 648) (by decide +kernel), List.mem_of_getElem? (i := 649) (by decide +kernel)⟩
theorem lw_p30 : lw_okq (⟨"HungryJuryModel", "hungerOn", "(II)V"⟩, 24) := ⟨⟨by decide +kernel, by decide +kernel⟩, List.mem_of_getElem? (i := 498) (by decide +kernel), List.mem_of_getElem? (i := 652) (by decide +kernel), List.mem_of_getElem? (i := 653) (by decide +kernel)⟩
theorem lw_p31 : lw_okq (⟨"HungryJuryModel", "givesIn", "(II)Z"⟩, 24) := ⟨⟨by decide +kernel, by decide +kernel⟩, List.mem_of_getElem? (i := 498) (by decide +kernel), List.mem_of_getElem? (i := 656) (by decide +kernel), List.mem_of_getElem? (i := 657) (by decide +kernel)⟩
def lw_privs_2 : List (MethodName × Nat) := [(⟨"HungryJury", "fitsWhatIsSeen", "(I)Z"⟩, 10), (⟨"HungryJury", "endIsYesFrom", "(I)I"⟩, 10), (⟨"HungryJury", "isBestWait", "(IIII)Z"⟩, 10), (⟨"HungryJury", "lossOf", "(IIII)I"⟩, 10), (⟨"HungryJuryModel", "readText", "()I"⟩, 24), (⟨"HungryJuryModel", "figureOf", "(I)I"⟩, 24), (⟨"HungryJuryModel", "readPart", "(I)V"⟩, 24), (⟨"HungryJuryModel", "firstsLeft", "()I"⟩, 24), (⟨"HungryJuryModel", "left", "(I)I"⟩, 24), (⟨"HungryJuryModel", "isJuror", "(I)Z"⟩, 24), (⟨"HungryJuryModel", "keepAct", "()V"⟩, 24), (⟨"HungryJuryModel", "passOn", "(I)I"⟩, 24), (⟨"HungryJuryModel", "verdict", "(I)I"⟩, 24), (⟨"HungryJuryModel", "isThere", "(II)Z"⟩, 24), (⟨"HungryJuryModel", "hungerOn", "(II)V"⟩, 24), (⟨"HungryJuryModel", "givesIn", "(II)Z"⟩, 24)]
theorem lw_r2 : ∀ q ∈ lw_privs_2, lw_okq q := List.forall_mem_cons.mpr ⟨lw_p16, List.forall_mem_cons.mpr ⟨lw_p17, List.forall_mem_cons.mpr ⟨lw_p18, List.forall_mem_cons.mpr ⟨lw_p19, List.forall_mem_cons.mpr ⟨lw_p20, List.forall_mem_cons.mpr ⟨lw_p21, List.forall_mem_cons.mpr ⟨lw_p22, List.forall_mem_cons.mpr ⟨lw_p23, List.forall_mem_cons.mpr ⟨lw_p24, List.forall_mem_cons.mpr ⟨lw_p25, List.forall_mem_cons.mpr ⟨lw_p26, List.forall_mem_cons.mpr ⟨lw_p27, List.forall_mem_cons.mpr ⟨lw_p28, List.forall_mem_cons.mpr ⟨lw_p29, List.forall_mem_cons.mpr ⟨lw_p30, List.forall_mem_cons.mpr ⟨lw_p31, fun _ h => absurd h List.not_mem_nil⟩⟩⟩⟩⟩⟩⟩⟩⟩⟩⟩⟩⟩⟩⟩⟩
theorem lw_p32 : lw_okq (⟨"HungryJuryModel", "canArgue", "(II)Z"⟩, 24) := ⟨⟨by decide +kernel, by decide +kernel⟩, List.mem_of_getElem? (i := 498) (by decide +kernel), List.mem_of_getElem? (i := 664) (by decide +kernel), List.mem_of_getElem? (i := 665) (by decide +kernel)⟩
theorem lw_p33 : lw_okq (⟨"HungryJuryModel", "canFeed", "(II)Z"⟩, 24) := ⟨⟨by decide +kernel, by decide +kernel⟩, List.mem_of_getElem? (i := 498) (by decide +kernel), List.mem_of_getElem? (i := 672) (by decide +kernel), List.mem_of_getElem? (i := 673) (by decide +kernel)⟩
theorem lw_p34 : lw_okq (⟨"HungryJuryModel", "dieOn", "(II)V"⟩, 24) := ⟨⟨by decide +kernel, by decide +kernel⟩, List.mem_of_getElem? (i := 498) (by decide +kernel), List.mem_of_getElem? (i := 680) (by decide +kernel), List.mem_of_getElem? (i := 681) (by decide +kernel)⟩
theorem lw_p35 : lw_okq (⟨"HungryJuryModel", "layTrial", "()V"⟩, 24) := ⟨⟨by decide +kernel, by decide +kernel⟩, List.mem_of_getElem? (i := 498) (by decide +kernel), List.mem_of_getElem? (i := 696) (by decide +kernel), List.mem_of_getElem? (i := 697) (by decide +kernel)⟩
theorem lw_p36 : lw_okq (⟨"HungryJuryModel", "runTrial", "()I"⟩, 24) := ⟨⟨by decide +kernel, by decide +kernel⟩, List.mem_of_getElem? (i := 498) (by decide +kernel), List.mem_of_getElem? (i := 704) (by decide +kernel), List.mem_of_getElem? (i := 705) (by decide +kernel)⟩
theorem lw_p37 : lw_okq (⟨"HungryJuryModel", "isMove", "(III)Z"⟩, 24) := ⟨⟨by decide +kernel, by decide +kernel⟩, List.mem_of_getElem? (i := 498) (by decide +kernel), List.mem_of_getElem? (i := 727) (by decide +kernel), List.mem_of_getElem? (i := 728) (by decide +kernel)⟩
theorem lw_p38 : lw_okq (⟨"HungryJuryModel", "tryThing", "(II)Z"⟩, 24) := ⟨⟨by decide +kernel, by decide +kernel⟩, List.mem_of_getElem? (i := 498) (by decide +kernel), List.mem_of_getElem? (i := 736) (by decide +kernel), List.mem_of_getElem? (i := 737) (by decide +kernel)⟩
theorem lw_p39 : lw_okq (⟨"HungryJuryModel", "mayBe", "(I)Z"⟩, 24) := ⟨⟨by decide +kernel, by decide +kernel⟩, List.mem_of_getElem? (i := 498) (by decide +kernel), List.mem_of_getElem? (i := 753) (by decide +kernel), List.mem_of_getElem? (i := 754) (by decide +kernel)⟩
theorem lw_p40 : lw_okq (⟨"HungryJuryModel", "layYes", "(I)V"⟩, 24) := ⟨⟨by decide +kernel, by decide +kernel⟩, List.mem_of_getElem? (i := 498) (by decide +kernel), List.mem_of_getElem? (i := 757) (by decide +kernel), List.mem_of_getElem? (i := 758) (by decide +kernel)⟩
theorem lw_p41 : lw_okq (⟨"HungryJuryModel", "isSeen", "(I)Z"⟩, 24) := ⟨⟨by decide +kernel, by decide +kernel⟩, List.mem_of_getElem? (i := 498) (by decide +kernel), List.mem_of_getElem? (i := 761) (by decide +kernel), List.mem_of_getElem? (i := 762) (by decide +kernel)⟩
theorem lw_p42 : lw_okq (⟨"HungryJuryModel", "endOf", "(I)I"⟩, 24) := ⟨⟨by decide +kernel, by decide +kernel⟩, List.mem_of_getElem? (i := 498) (by decide +kernel), List.mem_of_getElem? (i := 772) (by decide +kernel), List.mem_of_getElem? (i := 773) (by decide +kernel)⟩
theorem lw_p43 : lw_okq (⟨"HungryJuryModel", "isRest", "(IIII)Z"⟩, 24) := ⟨⟨by decide +kernel, by decide +kernel⟩, List.mem_of_getElem? (i := 498) (by decide +kernel), List.mem_of_getElem? (i := 783) (by decide +kernel), List.mem_of_getElem? (i := 784) (by decide +kernel)⟩
theorem lw_p44 : lw_okq (⟨"HungryJuryModel", "loses", "(IIII)I"⟩, 24) := ⟨⟨by decide +kernel, by decide +kernel⟩, List.mem_of_getElem? (i := 498) (by decide +kernel), List.mem_of_getElem? (i := 787) (by decide +kernel), List.mem_of_getElem? (i := 788) (by decide +kernel)⟩
def lw_privs_3 : List (MethodName × Nat) := [(⟨"HungryJuryModel", "canArgue", "(II)Z"⟩, 24), (⟨"HungryJuryModel", "canFeed", "(II)Z"⟩, 24), (⟨"HungryJuryModel", "dieOn", "(II)V"⟩, 24), (⟨"HungryJuryModel", "layTrial", "()V"⟩, 24), (⟨"HungryJuryModel", "runTrial", "()I"⟩, 24), (⟨"HungryJuryModel", "isMove", "(III)Z"⟩, 24), (⟨"HungryJuryModel", "tryThing", "(II)Z"⟩, 24), (⟨"HungryJuryModel", "mayBe", "(I)Z"⟩, 24), (⟨"HungryJuryModel", "layYes", "(I)V"⟩, 24), (⟨"HungryJuryModel", "isSeen", "(I)Z"⟩, 24), (⟨"HungryJuryModel", "endOf", "(I)I"⟩, 24), (⟨"HungryJuryModel", "isRest", "(IIII)Z"⟩, 24), (⟨"HungryJuryModel", "loses", "(IIII)I"⟩, 24)]
theorem lw_r3 : ∀ q ∈ lw_privs_3, lw_okq q := List.forall_mem_cons.mpr ⟨lw_p32, List.forall_mem_cons.mpr ⟨lw_p33, List.forall_mem_cons.mpr ⟨lw_p34, List.forall_mem_cons.mpr ⟨lw_p35, List.forall_mem_cons.mpr ⟨lw_p36, List.forall_mem_cons.mpr ⟨lw_p37, List.forall_mem_cons.mpr ⟨lw_p38, List.forall_mem_cons.mpr ⟨lw_p39, List.forall_mem_cons.mpr ⟨lw_p40, List.forall_mem_cons.mpr ⟨lw_p41, List.forall_mem_cons.mpr ⟨lw_p42, List.forall_mem_cons.mpr ⟨lw_p43, List.forall_mem_cons.mpr ⟨lw_p44, fun _ h => absurd h List.not_mem_nil⟩⟩⟩⟩⟩⟩⟩⟩⟩⟩⟩⟩⟩
def lw_privs : List (MethodName × Nat) := lw_privs_1 ++ (lw_privs_2 ++ (lw_privs_3))
def lw_tbl : List Cond := k2_sels lw_privs ++ tables_1
theorem lw_privs_ok : ∀ q ∈ lw_privs, lw_okq q := by
  show ∀ q ∈ lw_privs_1 ++ (lw_privs_2 ++ (lw_privs_3)), lw_okq q
  exact List.forall_mem_append.mpr ⟨lw_r1, List.forall_mem_append.mpr ⟨lw_r2, lw_r3⟩⟩
end
section
/-! ===== BEGIN words of one list among another's, by their places ===== -/
theorem goodIn_r {big : List Cond} (ws : List Cond) (ps : List Nat) (hp : ws = ps.filterMap (fun i => big[i]?)) (h : ws.all goodWord = true) : GoodIn big ws := by
  intro w hw
  have h1 := List.all_eq_true.mp h w hw
  rw [hp] at hw
  obtain ⟨i, -, hi⟩ := List.mem_filterMap.mp hw
  have hm : w ∈ big := by first | exact List.mem_of_getElem? hi | exact List.getElem?_mem hi
  exact ⟨hm, good_of_word h1⟩
theorem goodIn_app {big a b : List Cond} (ha : GoodIn big a) (hb : GoodIn big b) : GoodIn big (a ++ b) := fun w h => (List.mem_append.mp h).elim (ha w) (hb w)
theorem goodIn_ca {big a b : List Cond} {c : Cond} (ha : GoodIn big (c :: a)) (hb : GoodIn big b) : GoodIn big (c :: (a ++ b)) := fun w h => (List.mem_cons.mp h).elim (fun e => ha w (List.mem_cons.mpr (Or.inl e))) (fun h => (List.mem_append.mp h).elim (fun h => ha w (List.mem_cons.mpr (Or.inr h))) (hb w))
theorem goodIn_sub {big ws : List Cond} (hm : ∀ w ∈ ws, w ∈ big) (h : ws.all goodWord = true) : GoodIn big ws := fun w hw => ⟨hm w hw, good_of_word (List.all_eq_true.mp h w hw)⟩
/-! ===== END ===== -/

/-! ===== BEGIN printed: names, fields, word lists, decode rows ===== -/
def RX0 : String := "HungryJury$Acts"
def TX0 : u_T := fun k => match k with
  | 0 => ("HungryJury$Acts", "before", "[LHungryJury$Room;", true)
  | _ => ("HungryJury$Acts", "size", "I", false)
def tyX0 : Nat → FieldType := fun k => match k with
  | 0 => .array (.object "HungryJury$Room")
  | _ => .int
abbrev wsX00 : List Cond := u_ws RX0 TX0 2
theorem nmX0 : ∀ a, a < 2 → ∀ b, b < 2 → a ≠ b → (TX0 a).2.1 ≠ (TX0 b).2.1 := by decide +kernel
theorem tyX0_ok : ∀ k, k < 2 → parseFieldDescriptor (TX0 k).2.2.1 = some (tyX0 k) := by decide +kernel
abbrev cX0_init : ByteArray := prog_2_method_1_code
def yX0_init : MethodName := ⟨RX0, "<init>", "(LHungryJury$Panel;)V"⟩
abbrev cX0_remember : ByteArray := prog_2_method_2_code
def yX0_remember : MethodName := ⟨RX0, "remember", "(LHungryJury$Room;)V"⟩
abbrev cX0_forgetOldest : ByteArray := prog_2_method_3_code
def yX0_forgetOldest : MethodName := ⟨RX0, "forgetOldest", "()V"⟩
abbrev cX0_forgetAll : ByteArray := prog_2_method_4_code
def yX0_forgetAll : MethodName := ⟨RX0, "forgetAll", "()V"⟩
abbrev cX0_takeBack : ByteArray := prog_2_method_5_code
def yX0_takeBack : MethodName := ⟨RX0, "takeBack", "(LHungryJury$Room;)Z"⟩
def RX1 : String := "HungryJury$Panel"
def TX1 : u_T := fun k => match k with
  | 0 => ("HungryJury$Panel", "stubborn", "[I", true)
  | 1 => ("HungryJury$Panel", "kind", "[I", true)
  | 2 => ("HungryJury$Panel", "heeded", "[I", true)
  | 3 => ("HungryJury$Panel", "jurors", "I", false)
  | 4 => ("HungryJury$Panel", "need", "I", false)
  | _ => ("HungryJury$Panel", "yes", "I", false)
def tyX1 : Nat → FieldType := fun k => match k with
  | 0 => .array .int
  | 1 => .array .int
  | 2 => .array .int
  | 3 => .int
  | 4 => .int
  | _ => .int
abbrev wsX10 : List Cond := u_ws RX1 TX1 6
theorem nmX1 : ∀ a, a < 6 → ∀ b, b < 6 → a ≠ b → (TX1 a).2.1 ≠ (TX1 b).2.1 := by decide +kernel
theorem tyX1_ok : ∀ k, k < 6 → parseFieldDescriptor (TX1 k).2.2.1 = some (tyX1 k) := by decide +kernel
abbrev cX1_init : ByteArray := prog_3_method_1_code
def yX1_init : MethodName := ⟨RX1, "<init>", "()V"⟩
abbrev cX1_readFrom : ByteArray := prog_3_method_2_code
def yX1_readFrom : MethodName := ⟨RX1, "readFrom", "(LHungryJury$Text;)I"⟩
abbrev cX1_readJuror : ByteArray := prog_3_method_3_code
def yX1_readJuror : MethodName := ⟨RX1, "readJuror", "(LHungryJury$Text;I)I"⟩
abbrev cX1_readPair : ByteArray := prog_3_method_4_code
def yX1_readPair : MethodName := ⟨RX1, "readPair", "(LHungryJury$Text;I)I"⟩
abbrev cX1_hasPairLeft : ByteArray := prog_3_method_5_code
def yX1_hasPairLeft : MethodName := ⟨RX1, "hasPairLeft", "()Z"⟩
abbrev cX1_pairsLeft : ByteArray := prog_3_method_6_code
def yX1_pairsLeft : MethodName := ⟨RX1, "pairsLeft", "(I)I"⟩
def RX2 : String := "HungryJury$Room"
def TX2 : u_T := fun k => match k with
  | 0 => ("HungryJury$Room", "panel", "LHungryJury$Panel;", true)
  | 1 => ("HungryJury$Room", "stubborn", "[I", true)
  | 2 => ("HungryJury$Room", "hunger", "[I", true)
  | 3 => ("HungryJury$Room", "yes", "I", false)
  | 4 => ("HungryJury$Room", "there", "I", false)
  | _ => ("HungryJury$Room", "theHour", "I", false)
def tyX2 : Nat → FieldType := fun k => match k with
  | 0 => .object "HungryJury$Panel"
  | 1 => .array .int
  | 2 => .array .int
  | 3 => .int
  | 4 => .int
  | _ => .int
abbrev wsX20 : List Cond := u_ws RX2 TX2 6
theorem nmX2 : ∀ a, a < 6 → ∀ b, b < 6 → a ≠ b → (TX2 a).2.1 ≠ (TX2 b).2.1 := by decide +kernel
theorem tyX2_ok : ∀ k, k < 6 → parseFieldDescriptor (TX2 k).2.2.1 = some (tyX2 k) := by decide +kernel
abbrev cX2_init : ByteArray := prog_4_method_1_code
def yX2_init : MethodName := ⟨RX2, "<init>", "(LHungryJury$Panel;)V"⟩
abbrev cX2_beginAnew : ByteArray := prog_4_method_2_code
def yX2_beginAnew : MethodName := ⟨RX2, "beginAnew", "()V"⟩
abbrev cX2_copyFrom : ByteArray := prog_4_method_3_code
def yX2_copyFrom : MethodName := ⟨RX2, "copyFrom", "(LHungryJury$Room;)V"⟩
abbrev cX2_isThere : ByteArray := prog_4_method_4_code
def yX2_isThere : MethodName := ⟨RX2, "isThere", "(I)Z"⟩
abbrev cX2_isYes : ByteArray := prog_4_method_5_code
def yX2_isYes : MethodName := ⟨RX2, "isYes", "(I)Z"⟩
abbrev cX2_yesThere : ByteArray := prog_4_method_6_code
def yX2_yesThere : MethodName := ⟨RX2, "yesThere", "()I"⟩
abbrev cX2_verdict : ByteArray := prog_4_method_7_code
def yX2_verdict : MethodName := ⟨RX2, "verdict", "()I"⟩
abbrev cX2_carries : ByteArray := prog_4_method_8_code
def yX2_carries : MethodName := ⟨RX2, "carries", "(II)Z"⟩
abbrev cX2_passHour : ByteArray := prog_4_method_9_code
def yX2_passHour : MethodName := ⟨RX2, "passHour", "()I"⟩
abbrev cX2_growHungry : ByteArray := prog_4_method_10_code
def yX2_growHungry : MethodName := ⟨RX2, "growHungry", "()V"⟩
abbrev cX2_hungerOfHour : ByteArray := prog_4_method_11_code
def yX2_hungerOfHour : MethodName := ⟨RX2, "hungerOfHour", "(I)I"⟩
abbrev cX2_mustGiveIn : ByteArray := prog_4_method_12_code
def yX2_mustGiveIn : MethodName := ⟨RX2, "mustGiveIn", "(I)Z"⟩
abbrev cX2_passHoursToEnd : ByteArray := prog_4_method_13_code
def yX2_passHoursToEnd : MethodName := ⟨RX2, "passHoursToEnd", "()I"⟩
abbrev cX2_canDo : ByteArray := prog_4_method_14_code
def yX2_canDo : MethodName := ⟨RX2, "canDo", "(II)Z"⟩
abbrev cX2_carryOut : ByteArray := prog_4_method_15_code
def yX2_carryOut : MethodName := ⟨RX2, "carryOut", "(II)V"⟩
def RX3 : String := "HungryJury$Sights"
def TX3 : u_T := fun k => match k with
  | 0 => ("HungryJury$Sights", "who", "[I", true)
  | 1 => ("HungryJury$Sights", "hours", "[I", true)
  | 2 => ("HungryJury$Sights", "side", "[I", true)
  | _ => ("HungryJury$Sights", "size", "I", false)
def tyX3 : Nat → FieldType := fun k => match k with
  | 0 => .array .int
  | 1 => .array .int
  | 2 => .array .int
  | _ => .int
abbrev wsX30 : List Cond := u_ws RX3 TX3 4
theorem nmX3 : ∀ a, a < 4 → ∀ b, b < 4 → a ≠ b → (TX3 a).2.1 ≠ (TX3 b).2.1 := by decide +kernel
theorem tyX3_ok : ∀ k, k < 4 → parseFieldDescriptor (TX3 k).2.2.1 = some (tyX3 k) := by decide +kernel
abbrev cX3_init : ByteArray := prog_5_method_1_code
def yX3_init : MethodName := ⟨RX3, "<init>", "()V"⟩
abbrev cX3_add : ByteArray := prog_5_method_2_code
def yX3_add : MethodName := ⟨RX3, "add", "(III)Z"⟩
abbrev cX3_fit : ByteArray := prog_5_method_3_code
def yX3_fit : MethodName := ⟨RX3, "fit", "(LHungryJury$Room;I)Z"⟩
def RX4 : String := "HungryJury$Text"
def TX4 : u_T := fun k => match k with
  | 0 => ("HungryJury$Text", "letters", "[I", true)
  | _ => ("HungryJury$Text", "length", "I", false)
def tyX4 : Nat → FieldType := fun k => match k with
  | 0 => .array .int
  | _ => .int
abbrev wsX40 : List Cond := u_ws RX4 TX4 2
theorem nmX4 : ∀ a, a < 2 → ∀ b, b < 2 → a ≠ b → (TX4 a).2.1 ≠ (TX4 b).2.1 := by decide +kernel
theorem tyX4_ok : ∀ k, k < 2 → parseFieldDescriptor (TX4 k).2.2.1 = some (tyX4 k) := by decide +kernel
abbrev cX4_init : ByteArray := prog_6_method_1_code
def yX4_init : MethodName := ⟨RX4, "<init>", "()V"⟩
abbrev cX4_add : ByteArray := prog_6_method_2_code
def yX4_add : MethodName := ⟨RX4, "add", "(I)Z"⟩
abbrev cX4_letterAt : ByteArray := prog_6_method_3_code
def yX4_letterAt : MethodName := ⟨RX4, "letterAt", "(I)I"⟩
abbrev cX4_isFigure : ByteArray := prog_6_method_4_code
def yX4_isFigure : MethodName := ⟨RX4, "isFigure", "(III)Z"⟩
abbrev cX4_figureAt : ByteArray := prog_6_method_5_code
def yX4_figureAt : MethodName := ⟨RX4, "figureAt", "(I)I"⟩
def RX5 : String := "HungryJury"
def TX5 : u_T := fun k => match k with
  | 0 => ("HungryJury", "text", "LHungryJury$Text;", true)
  | 1 => ("HungryJury", "panel", "LHungryJury$Panel;", true)
  | 2 => ("HungryJury", "draft", "LHungryJury$Panel;", true)
  | 3 => ("HungryJury", "now", "LHungryJury$Room;", true)
  | 4 => ("HungryJury", "trial", "LHungryJury$Room;", true)
  | 5 => ("HungryJury", "acts", "LHungryJury$Acts;", true)
  | 6 => ("HungryJury", "slots", "[LHungryJury$Room;", true)
  | 7 => ("HungryJury", "isKept", "[Z", true)
  | 8 => ("HungryJury", "sights", "LHungryJury$Sights;", true)
  | _ => ("HungryJury", "theSeed", "J", false)
def tyX5 : Nat → FieldType := fun k => match k with
  | 0 => .object "HungryJury$Text"
  | 1 => .object "HungryJury$Panel"
  | 2 => .object "HungryJury$Panel"
  | 3 => .object "HungryJury$Room"
  | 4 => .object "HungryJury$Room"
  | 5 => .object "HungryJury$Acts"
  | 6 => .array (.object "HungryJury$Room")
  | 7 => .array .boolean
  | 8 => .object "HungryJury$Sights"
  | _ => .long
abbrev wsX50 : List Cond := u_ws RX5 TX5 10
theorem nmX5 : ∀ a, a < 10 → ∀ b, b < 10 → a ≠ b → (TX5 a).2.1 ≠ (TX5 b).2.1 := by decide +kernel
theorem tyX5_ok : ∀ k, k < 10 → parseFieldDescriptor (TX5 k).2.2.1 = some (tyX5 k) := by decide +kernel
abbrev cX5_init : ByteArray := prog_1_method_1_code
def yX5_init : MethodName := ⟨RX5, "<init>", "()V"⟩
abbrev cX5_write : ByteArray := prog_1_method_2_code
def yX5_write : MethodName := ⟨RX5, "write", "(I)I"⟩
abbrev cX5_wipe : ByteArray := prog_1_method_3_code
def yX5_wipe : MethodName := ⟨RX5, "wipe", "()I"⟩
abbrev cX5_fault : ByteArray := prog_1_method_4_code
def yX5_fault : MethodName := ⟨RX5, "fault", "()I"⟩
abbrev cX5_jury : ByteArray := prog_1_method_5_code
def yX5_jury : MethodName := ⟨RX5, "jury", "()I"⟩
abbrev cX5_juror : ByteArray := prog_1_method_6_code
def yX5_juror : MethodName := ⟨RX5, "juror", "(II)I"⟩
abbrev cX5_hour : ByteArray := prog_1_method_7_code
def yX5_hour : MethodName := ⟨RX5, "hour", "()I"⟩
abbrev cX5_argue : ByteArray := prog_1_method_8_code
def yX5_argue : MethodName := ⟨RX5, "argue", "(I)I"⟩
abbrev cX5_feed : ByteArray := prog_1_method_9_code
def yX5_feed : MethodName := ⟨RX5, "feed", "(I)I"⟩
abbrev cX5_die : ByteArray := prog_1_method_10_code
def yX5_die : MethodName := ⟨RX5, "die", "(I)I"⟩
abbrev cX5_toss : ByteArray := prog_1_method_11_code
def yX5_toss : MethodName := ⟨RX5, "toss", "(I)I"⟩
abbrev cX5_undo : ByteArray := prog_1_method_12_code
def yX5_undo : MethodName := ⟨RX5, "undo", "()I"⟩
abbrev cX5_ahead : ByteArray := prog_1_method_13_code
def yX5_ahead : MethodName := ⟨RX5, "ahead", "(I)I"⟩
abbrev cX5_end : ByteArray := prog_1_method_14_code
def yX5_end : MethodName := ⟨RX5, "end", "(I)I"⟩
abbrev cX5_gives : ByteArray := prog_1_method_15_code
def yX5_gives : MethodName := ⟨RX5, "gives", "(I)I"⟩
abbrev cX5_toFeed : ByteArray := prog_1_method_16_code
def yX5_toFeed : MethodName := ⟨RX5, "toFeed", "(I)I"⟩
abbrev cX5_strike : ByteArray := prog_1_method_17_code
def yX5_strike : MethodName := ⟨RX5, "strike", "(I)I"⟩
abbrev cX5_toMove : ByteArray := prog_1_method_18_code
def yX5_toMove : MethodName := ⟨RX5, "toMove", "(IZ)I"⟩
abbrev cX5_judge : ByteArray := prog_1_method_19_code
def yX5_judge : MethodName := ⟨RX5, "judge", "(II)I"⟩
abbrev cX5_see : ByteArray := prog_1_method_20_code
def yX5_see : MethodName := ⟨RX5, "see", "(III)I"⟩
abbrev cX5_unsee : ByteArray := prog_1_method_21_code
def yX5_unsee : MethodName := ⟨RX5, "unsee", "()I"⟩
abbrev cX5_first : ByteArray := prog_1_method_22_code
def yX5_first : MethodName := ⟨RX5, "first", "(I)I"⟩
abbrev cX5_share : ByteArray := prog_1_method_23_code
def yX5_share : MethodName := ⟨RX5, "share", "(IZ)I"⟩
abbrev cX5_rests : ByteArray := prog_1_method_24_code
def yX5_rests : MethodName := ⟨RX5, "rests", "(III)I"⟩
abbrev cX5_coins : ByteArray := prog_1_method_25_code
def yX5_coins : MethodName := ⟨RX5, "coins", "(IIZ)I"⟩
abbrev cX5_seed : ByteArray := prog_1_method_26_code
def yX5_seed : MethodName := ⟨RX5, "seed", "(J)J"⟩
abbrev cX5_assizes : ByteArray := prog_1_method_27_code
def yX5_assizes : MethodName := ⟨RX5, "assizes", "(I)I"⟩
abbrev cX5_keep : ByteArray := prog_1_method_28_code
def yX5_keep : MethodName := ⟨RX5, "keep", "(I)I"⟩
abbrev cX5_again : ByteArray := prog_1_method_29_code
def yX5_again : MethodName := ⟨RX5, "again", "(I)I"⟩
abbrev cX5_count : ByteArray := prog_1_method_30_code
def yX5_count : MethodName := ⟨RX5, "count", "(I)I"⟩
abbrev cX5_isJuror : ByteArray := prog_1_method_31_code
def yX5_isJuror : MethodName := ⟨RX5, "isJuror", "(I)Z"⟩
abbrev cX5_isSide : ByteArray := prog_1_method_32_code
def yX5_isSide : MethodName := ⟨RX5, "isSide", "(I)Z"⟩
abbrev cX5_doAct : ByteArray := prog_1_method_33_code
def yX5_doAct : MethodName := ⟨RX5, "doAct", "(II)I"⟩
abbrev cX5_endAfter : ByteArray := prog_1_method_34_code
def yX5_endAfter : MethodName := ⟨RX5, "endAfter", "(II)I"⟩
abbrev cX5_fewestFor : ByteArray := prog_1_method_35_code
def yX5_fewestFor : MethodName := ⟨RX5, "fewestFor", "(II)I"⟩
abbrev cX5_leastMoveFor : ByteArray := prog_1_method_36_code
def yX5_leastMoveFor : MethodName := ⟨RX5, "leastMoveFor", "(I)I"⟩
abbrev cX5_isMove : ByteArray := prog_1_method_37_code
def yX5_isMove : MethodName := ⟨RX5, "isMove", "(I)Z"⟩
abbrev cX5_endAfterMove : ByteArray := prog_1_method_38_code
def yX5_endAfterMove : MethodName := ⟨RX5, "endAfterMove", "(I)I"⟩
abbrev cX5_figuresOf : ByteArray := prog_1_method_39_code
def yX5_figuresOf : MethodName := ⟨RX5, "figuresOf", "(I)I"⟩
abbrev cX5_fitsWhatIsSeen : ByteArray := prog_1_method_40_code
def yX5_fitsWhatIsSeen : MethodName := ⟨RX5, "fitsWhatIsSeen", "(I)Z"⟩
abbrev cX5_endIsYesFrom : ByteArray := prog_1_method_41_code
def yX5_endIsYesFrom : MethodName := ⟨RX5, "endIsYesFrom", "(I)I"⟩
abbrev cX5_ordersWith : ByteArray := prog_1_method_42_code
def yX5_ordersWith : MethodName := ⟨RX5, "ordersWith", "(II)I"⟩
abbrev cX5_factorial : ByteArray := prog_1_method_43_code
def yX5_factorial : MethodName := ⟨RX5, "factorial", "(I)I"⟩
abbrev cX5_power : ByteArray := prog_1_method_44_code
def yX5_power : MethodName := ⟨RX5, "power", "(II)I"⟩
abbrev cX5_partOfFraction : ByteArray := prog_1_method_45_code
def yX5_partOfFraction : MethodName := ⟨RX5, "partOfFraction", "(IIZ)I"⟩
abbrev cX5_commonDivisor : ByteArray := prog_1_method_46_code
def yX5_commonDivisor : MethodName := ⟨RX5, "commonDivisor", "(II)I"⟩
abbrev cX5_isBestWait : ByteArray := prog_1_method_47_code
def yX5_isBestWait : MethodName := ⟨RX5, "isBestWait", "(IIII)Z"⟩
abbrev cX5_lossOf : ByteArray := prog_1_method_48_code
def yX5_lossOf : MethodName := ⟨RX5, "lossOf", "(IIII)I"⟩
def RX6 : String := "HungryJuryModel"
def TX6 : u_T := fun k => match k with
  | 0 => ("HungryJuryModel", "jurors", "I", false)
  | 1 => ("HungryJuryModel", "need", "I", false)
  | 2 => ("HungryJuryModel", "kind", "[I", true)
  | 3 => ("HungryJuryModel", "heeds", "[I", true)
  | 4 => ("HungryJuryModel", "now", "[I", true)
  | 5 => ("HungryJuryModel", "readOf", "[I", true)
  | 6 => ("HungryJuryModel", "readHeeds", "[I", true)
  | 7 => ("HungryJuryModel", "readJurors", "I", false)
  | 8 => ("HungryJuryModel", "readNeed", "I", false)
  | 9 => ("HungryJuryModel", "text", "[I", true)
  | 10 => ("HungryJuryModel", "length", "I", false)
  | 11 => ("HungryJuryModel", "at", "I", false)
  | 12 => ("HungryJuryModel", "faultAt", "I", false)
  | 13 => ("HungryJuryModel", "acts", "I", false)
  | 14 => ("HungryJuryModel", "next", "I", false)
  | 15 => ("HungryJuryModel", "row", "[I", true)
  | 16 => ("HungryJuryModel", "endIn", "I", false)
  | 17 => ("HungryJuryModel", "seen", "I", false)
  | 18 => ("HungryJuryModel", "seenOf", "[I", true)
  | 19 => ("HungryJuryModel", "seenBehind", "[I", true)
  | 20 => ("HungryJuryModel", "seenFor", "[I", true)
  | 21 => ("HungryJuryModel", "seed", "J", false)
  | 22 => ("HungryJuryModel", "isKept", "[Z", true)
  | _ => ("HungryJuryModel", "kept", "[I", true)
def tyX6 : Nat → FieldType := fun k => match k with
  | 0 => .int
  | 1 => .int
  | 2 => .array .int
  | 3 => .array .int
  | 4 => .array .int
  | 5 => .array .int
  | 6 => .array .int
  | 7 => .int
  | 8 => .int
  | 9 => .array .int
  | 10 => .int
  | 11 => .int
  | 12 => .int
  | 13 => .int
  | 14 => .int
  | 15 => .array .int
  | 16 => .int
  | 17 => .int
  | 18 => .array .int
  | 19 => .array .int
  | 20 => .array .int
  | 21 => .long
  | 22 => .array .boolean
  | _ => .array .int
abbrev wsX60 : List Cond := u_ws RX6 TX6 24
theorem nmX6 : ∀ a, a < 24 → ∀ b, b < 24 → a ≠ b → (TX6 a).2.1 ≠ (TX6 b).2.1 := by decide +kernel
theorem tyX6_ok : ∀ k, k < 24 → parseFieldDescriptor (TX6 k).2.2.1 = some (tyX6 k) := by decide +kernel
abbrev cX6_init : ByteArray := prog_8_method_1_code
def yX6_init : MethodName := ⟨RX6, "<init>", "()V"⟩
abbrev cX6_in : ByteArray := prog_8_method_3_code
def yX6_in : MethodName := ⟨RX6, "in", "(JJJ)Z"⟩
abbrev cX6_has : ByteArray := prog_8_method_4_code
def yX6_has : MethodName := ⟨RX6, "has", "(II)Z"⟩
abbrev cX6_ones : ByteArray := prog_8_method_5_code
def yX6_ones : MethodName := ⟨RX6, "ones", "(I)I"⟩
abbrev cX6_write : ByteArray := prog_8_method_6_code
def yX6_write : MethodName := ⟨RX6, "write", "(I)I"⟩
abbrev cX6_wipe : ByteArray := prog_8_method_7_code
def yX6_wipe : MethodName := ⟨RX6, "wipe", "()I"⟩
abbrev cX6_figureOf : ByteArray := prog_8_method_8_code
def yX6_figureOf : MethodName := ⟨RX6, "figureOf", "(I)I"⟩
abbrev cX6_left : ByteArray := prog_8_method_9_code
def yX6_left : MethodName := ⟨RX6, "left", "(I)I"⟩
abbrev cX6_firstsLeft : ByteArray := prog_8_method_10_code
def yX6_firstsLeft : MethodName := ⟨RX6, "firstsLeft", "()I"⟩
abbrev cX6_readText : ByteArray := prog_8_method_11_code
def yX6_readText : MethodName := ⟨RX6, "readText", "()I"⟩
abbrev cX6_readPart : ByteArray := prog_8_method_12_code
def yX6_readPart : MethodName := ⟨RX6, "readPart", "(I)V"⟩
abbrev cX6_fault : ByteArray := prog_8_method_13_code
def yX6_fault : MethodName := ⟨RX6, "fault", "()I"⟩
abbrev cX6_jury : ByteArray := prog_8_method_14_code
def yX6_jury : MethodName := ⟨RX6, "jury", "()I"⟩
abbrev cX6_isJuror : ByteArray := prog_8_method_15_code
def yX6_isJuror : MethodName := ⟨RX6, "isJuror", "(I)Z"⟩
abbrev cX6_isThere : ByteArray := prog_8_method_16_code
def yX6_isThere : MethodName := ⟨RX6, "isThere", "(II)Z"⟩
abbrev cX6_verdict : ByteArray := prog_8_method_17_code
def yX6_verdict : MethodName := ⟨RX6, "verdict", "(I)I"⟩
abbrev cX6_hungerOn : ByteArray := prog_8_method_18_code
def yX6_hungerOn : MethodName := ⟨RX6, "hungerOn", "(II)V"⟩
abbrev cX6_givesIn : ByteArray := prog_8_method_19_code
def yX6_givesIn : MethodName := ⟨RX6, "givesIn", "(II)Z"⟩
abbrev cX6_passOn : ByteArray := prog_8_method_20_code
def yX6_passOn : MethodName := ⟨RX6, "passOn", "(I)I"⟩
abbrev cX6_juror : ByteArray := prog_8_method_21_code
def yX6_juror : MethodName := ⟨RX6, "juror", "(II)I"⟩
abbrev cX6_keepAct : ByteArray := prog_8_method_22_code
def yX6_keepAct : MethodName := ⟨RX6, "keepAct", "()V"⟩
abbrev cX6_hour : ByteArray := prog_8_method_23_code
def yX6_hour : MethodName := ⟨RX6, "hour", "()I"⟩
abbrev cX6_canArgue : ByteArray := prog_8_method_24_code
def yX6_canArgue : MethodName := ⟨RX6, "canArgue", "(II)Z"⟩
abbrev cX6_argue : ByteArray := prog_8_method_25_code
def yX6_argue : MethodName := ⟨RX6, "argue", "(I)I"⟩
abbrev cX6_canFeed : ByteArray := prog_8_method_26_code
def yX6_canFeed : MethodName := ⟨RX6, "canFeed", "(II)Z"⟩
abbrev cX6_feed : ByteArray := prog_8_method_27_code
def yX6_feed : MethodName := ⟨RX6, "feed", "(I)I"⟩
abbrev cX6_dieOn : ByteArray := prog_8_method_28_code
def yX6_dieOn : MethodName := ⟨RX6, "dieOn", "(II)V"⟩
abbrev cX6_die : ByteArray := prog_8_method_29_code
def yX6_die : MethodName := ⟨RX6, "die", "(I)I"⟩
abbrev cX6_toss : ByteArray := prog_8_method_30_code
def yX6_toss : MethodName := ⟨RX6, "toss", "(I)I"⟩
abbrev cX6_undo : ByteArray := prog_8_method_31_code
def yX6_undo : MethodName := ⟨RX6, "undo", "()I"⟩
abbrev cX6_layTrial : ByteArray := prog_8_method_32_code
def yX6_layTrial : MethodName := ⟨RX6, "layTrial", "()V"⟩
abbrev cX6_ahead : ByteArray := prog_8_method_33_code
def yX6_ahead : MethodName := ⟨RX6, "ahead", "(I)I"⟩
abbrev cX6_runTrial : ByteArray := prog_8_method_34_code
def yX6_runTrial : MethodName := ⟨RX6, "runTrial", "()I"⟩
abbrev cX6_end : ByteArray := prog_8_method_35_code
def yX6_end : MethodName := ⟨RX6, "end", "(I)I"⟩
abbrev cX6_gives : ByteArray := prog_8_method_36_code
def yX6_gives : MethodName := ⟨RX6, "gives", "(I)I"⟩
abbrev cX6_toFeed : ByteArray := prog_8_method_37_code
def yX6_toFeed : MethodName := ⟨RX6, "toFeed", "(I)I"⟩
abbrev cX6_strike : ByteArray := prog_8_method_38_code
def yX6_strike : MethodName := ⟨RX6, "strike", "(I)I"⟩
abbrev cX6_tenTo : ByteArray := prog_8_method_39_code
def yX6_tenTo : MethodName := ⟨RX6, "tenTo", "(I)I"⟩
abbrev cX6_isMove : ByteArray := prog_8_method_40_code
def yX6_isMove : MethodName := ⟨RX6, "isMove", "(III)Z"⟩
abbrev cX6_toMove : ByteArray := prog_8_method_41_code
def yX6_toMove : MethodName := ⟨RX6, "toMove", "(IZ)I"⟩
abbrev cX6_tryThing : ByteArray := prog_8_method_42_code
def yX6_tryThing : MethodName := ⟨RX6, "tryThing", "(II)Z"⟩
abbrev cX6_judge : ByteArray := prog_8_method_43_code
def yX6_judge : MethodName := ⟨RX6, "judge", "(II)I"⟩
abbrev cX6_see : ByteArray := prog_8_method_44_code
def yX6_see : MethodName := ⟨RX6, "see", "(III)I"⟩
abbrev cX6_unsee : ByteArray := prog_8_method_45_code
def yX6_unsee : MethodName := ⟨RX6, "unsee", "()I"⟩
abbrev cX6_isSeen : ByteArray := prog_8_method_46_code
def yX6_isSeen : MethodName := ⟨RX6, "isSeen", "(I)Z"⟩
abbrev cX6_layYes : ByteArray := prog_8_method_47_code
def yX6_layYes : MethodName := ⟨RX6, "layYes", "(I)V"⟩
abbrev cX6_mayBe : ByteArray := prog_8_method_48_code
def yX6_mayBe : MethodName := ⟨RX6, "mayBe", "(I)Z"⟩
abbrev cX6_first : ByteArray := prog_8_method_49_code
def yX6_first : MethodName := ⟨RX6, "first", "(I)I"⟩
abbrev cX6_factorial : ByteArray := prog_8_method_50_code
def yX6_factorial : MethodName := ⟨RX6, "factorial", "(I)I"⟩
abbrev cX6_common : ByteArray := prog_8_method_51_code
def yX6_common : MethodName := ⟨RX6, "common", "(II)I"⟩
abbrev cX6_endOf : ByteArray := prog_8_method_52_code
def yX6_endOf : MethodName := ⟨RX6, "endOf", "(I)I"⟩
abbrev cX6_share : ByteArray := prog_8_method_53_code
def yX6_share : MethodName := ⟨RX6, "share", "(IZ)I"⟩
abbrev cX6_loses : ByteArray := prog_8_method_54_code
def yX6_loses : MethodName := ⟨RX6, "loses", "(IIII)I"⟩
abbrev cX6_isRest : ByteArray := prog_8_method_55_code
def yX6_isRest : MethodName := ⟨RX6, "isRest", "(IIII)Z"⟩
abbrev cX6_rests : ByteArray := prog_8_method_56_code
def yX6_rests : MethodName := ⟨RX6, "rests", "(III)I"⟩
abbrev cX6_power : ByteArray := prog_8_method_57_code
def yX6_power : MethodName := ⟨RX6, "power", "(II)I"⟩
abbrev cX6_coins : ByteArray := prog_8_method_58_code
def yX6_coins : MethodName := ⟨RX6, "coins", "(IIZ)I"⟩
abbrev cX6_seed : ByteArray := prog_8_method_59_code
def yX6_seed : MethodName := ⟨RX6, "seed", "(J)J"⟩
abbrev cX6_assizes : ByteArray := prog_8_method_60_code
def yX6_assizes : MethodName := ⟨RX6, "assizes", "(I)I"⟩
abbrev cX6_keep : ByteArray := prog_8_method_61_code
def yX6_keep : MethodName := ⟨RX6, "keep", "(I)I"⟩
abbrev cX6_again : ByteArray := prog_8_method_62_code
def yX6_again : MethodName := ⟨RX6, "again", "(I)I"⟩
abbrev cX6_count : ByteArray := prog_8_method_63_code
def yX6_count : MethodName := ⟨RX6, "count", "(I)I"⟩
def RJ6 : String := "java/lang/Integer"
def TJ6 : u_T := fun k => match k with
  | _ => ("", "", "", false)
def tyJ6 : Nat → FieldType := fun k => match k with
  | _ => .int
abbrev wsJ60 : List Cond := u_ws RJ6 TJ6 0
theorem nmJ6 : ∀ a, a < 0 → ∀ b, b < 0 → a ≠ b → (TJ6 a).2.1 ≠ (TJ6 b).2.1 := by decide +kernel
theorem tyJ6_ok : ∀ k, k < 0 → parseFieldDescriptor (TJ6 k).2.2.1 = some (tyJ6 k) := by decide +kernel
abbrev cJ6_bitCount_0f7a4 : ByteArray := prog_9_method_49_code
def yJ6_bitCount_0f7a4 : MethodName := ⟨RJ6, "bitCount", "(I)I"⟩
def RJ9 : String := "java/lang/Math"
def TJ9 : u_T := fun k => match k with
  | _ => ("", "", "", false)
def tyJ9 : Nat → FieldType := fun k => match k with
  | _ => .int
abbrev wsJ90 : List Cond := u_ws RJ9 TJ9 0
theorem nmJ9 : ∀ a, a < 0 → ∀ b, b < 0 → a ≠ b → (TJ9 a).2.1 ≠ (TJ9 b).2.1 := by decide +kernel
theorem tyJ9_ok : ∀ k, k < 0 → parseFieldDescriptor (TJ9 k).2.2.1 = some (tyJ9 k) := by decide +kernel
abbrev cJ9_abs_0f7a4 : ByteArray := prog_10_method_59_code
def yJ9_abs_0f7a4 : MethodName := ⟨RJ9, "abs", "(I)I"⟩
abbrev cJ9_max_7cf53 : ByteArray := prog_10_method_65_code
def yJ9_max_7cf53 : MethodName := ⟨RJ9, "max", "(II)I"⟩
abbrev cJ9_min_7cf53 : ByteArray := prog_10_method_69_code
def yJ9_min_7cf53 : MethodName := ⟨RJ9, "min", "(II)I"⟩
def RL : String := "HungryJuryLaw"
abbrev cL_law : ByteArray := code
def yL_law : MethodName := ⟨RL, "law", "([I)Z"⟩
def wsX2_init : List Cond := .code yX2_init cX2_init 2 none :: ([.methodLink RX2 3 objectInit, .instanceMethod objectInit, .code objectInit ⟨#[0xb1]⟩ 1 none, .arrayClass .int, .fieldLink RX2 9 "HungryJury$Room" "stubborn" "[I", .fieldLink RX2 15 "HungryJury$Room" "hunger" "[I", .fieldLink RX2 18 "HungryJury$Room" "panel" "LHungryJury$Panel;"] ++ wsX20)
def wsX0_init : List Cond := .code yX0_init cX0_init 3 none :: ([.methodLink RX0 3 objectInit, .instanceMethod objectInit, .code objectInit ⟨#[0xb1]⟩ 1 none, .classLink RX0 9 RX2, .fieldLink RX0 11 "HungryJury$Acts" "before" "[LHungryJury$Room;", .instantiable RX2 6, .initialized RX2, .methodLink RX0 17 yX2_init, .instanceMethod yX2_init, .code yX2_init cX2_init 2 none, .methodLink RX2 3 objectInit, .arrayClass .int, .fieldLink RX2 9 "HungryJury$Room" "stubborn" "[I", .fieldLink RX2 15 "HungryJury$Room" "hunger" "[I", .fieldLink RX2 18 "HungryJury$Room" "panel" "LHungryJury$Panel;"] ++ wsX00 ++ wsX20)
def wsX0_forgetOldest : List Cond := .code yX0_forgetOldest cX0_forgetOldest 3 none :: ([.fieldLink RX0 11 "HungryJury$Acts" "before" "[LHungryJury$Room;", .fieldLink RX0 20 "HungryJury$Acts" "size" "I"] ++ wsX00)
def wsX2_copyFrom : List Cond := .code yX2_copyFrom cX2_copyFrom 3 none :: ([.fieldLink RX2 28 "HungryJury$Room" "yes" "I", .fieldLink RX2 32 "HungryJury$Room" "there" "I", .fieldLink RX2 35 "HungryJury$Room" "theHour" "I", .fieldLink RX2 9 "HungryJury$Room" "stubborn" "[I", .fieldLink RX2 15 "HungryJury$Room" "hunger" "[I"] ++ wsX20)
def wsX0_remember : List Cond := .code yX0_remember cX0_remember 2 none :: ([.fieldLink RX0 20 "HungryJury$Acts" "size" "I", .fieldLink RX0 11 "HungryJury$Acts" "before" "[LHungryJury$Room;", .methodLink RX0 24 yX0_forgetOldest, .instanceMethod yX0_forgetOldest, .selects RX0 yX0_forgetOldest yX0_forgetOldest, .initialized RX0, .code yX0_forgetOldest cX0_forgetOldest 3 none, .methodLink RX0 27 yX2_copyFrom, .instanceMethod yX2_copyFrom, .selects RX2 yX2_copyFrom yX2_copyFrom, .initialized RX2, .code yX2_copyFrom cX2_copyFrom 3 none, .fieldLink RX2 28 "HungryJury$Room" "yes" "I", .fieldLink RX2 32 "HungryJury$Room" "there" "I", .fieldLink RX2 35 "HungryJury$Room" "theHour" "I", .fieldLink RX2 9 "HungryJury$Room" "stubborn" "[I", .fieldLink RX2 15 "HungryJury$Room" "hunger" "[I"] ++ wsX00 ++ wsX20)
def wsX0_forgetAll : List Cond := .code yX0_forgetAll cX0_forgetAll 1 none :: ([.fieldLink RX0 20 "HungryJury$Acts" "size" "I"] ++ wsX00)
def wsX0_takeBack : List Cond := .code yX0_takeBack cX0_takeBack 2 (some .boolean) :: ([.fieldLink RX0 20 "HungryJury$Acts" "size" "I", .fieldLink RX0 11 "HungryJury$Acts" "before" "[LHungryJury$Room;", .methodLink RX0 27 yX2_copyFrom, .instanceMethod yX2_copyFrom, .selects RX2 yX2_copyFrom yX2_copyFrom, .initialized RX2, .code yX2_copyFrom cX2_copyFrom 3 none, .fieldLink RX2 28 "HungryJury$Room" "yes" "I", .fieldLink RX2 32 "HungryJury$Room" "there" "I", .fieldLink RX2 35 "HungryJury$Room" "theHour" "I", .fieldLink RX2 9 "HungryJury$Room" "stubborn" "[I", .fieldLink RX2 15 "HungryJury$Room" "hunger" "[I"] ++ wsX00 ++ wsX20)
def wsX1_init : List Cond := .code yX1_init cX1_init 1 none :: ([.methodLink RX1 3 objectInit, .instanceMethod objectInit, .code objectInit ⟨#[0xb1]⟩ 1 none, .arrayClass .int, .fieldLink RX1 9 "HungryJury$Panel" "stubborn" "[I", .fieldLink RX1 15 "HungryJury$Panel" "kind" "[I", .fieldLink RX1 18 "HungryJury$Panel" "heeded" "[I", .fieldLink RX1 21 "HungryJury$Panel" "need" "I"] ++ wsX10)
def wsX4_letterAt : List Cond := .code yX4_letterAt cX4_letterAt 2 (some .int) :: ([.fieldLink RX4 15 "HungryJury$Text" "length" "I", .fieldLink RX4 9 "HungryJury$Text" "letters" "[I"] ++ wsX40)
def wsX4_isFigure : List Cond := .code yX4_isFigure cX4_isFigure 5 (some .boolean) :: ([.methodLink RX4 19 yX4_letterAt, .instanceMethod yX4_letterAt, .selects RX4 yX4_letterAt yX4_letterAt, .initialized RX4, .code yX4_letterAt cX4_letterAt 2 (some .int), .fieldLink RX4 15 "HungryJury$Text" "length" "I", .fieldLink RX4 9 "HungryJury$Text" "letters" "[I"] ++ wsX40)
def wsX4_figureAt : List Cond := .code yX4_figureAt cX4_figureAt 2 (some .int) :: ([.methodLink RX4 19 yX4_letterAt, .instanceMethod yX4_letterAt, .selects RX4 yX4_letterAt yX4_letterAt, .initialized RX4, .code yX4_letterAt cX4_letterAt 2 (some .int), .fieldLink RX4 15 "HungryJury$Text" "length" "I", .fieldLink RX4 9 "HungryJury$Text" "letters" "[I"] ++ wsX40)
def wsX1_readJuror : List Cond := .code yX1_readJuror cX1_readJuror 3 (some .int) :: ([.fieldLink RX1 25 "HungryJury$Panel" "jurors" "I", .fieldLink RX1 28 "HungryJury$Panel" "yes" "I", .fieldLink RX1 9 "HungryJury$Panel" "stubborn" "[I", .fieldLink RX1 15 "HungryJury$Panel" "kind" "[I", .fieldLink RX1 18 "HungryJury$Panel" "heeded" "[I", .methodLink RX1 37 yX4_isFigure, .instanceMethod yX4_isFigure, .selects RX4 yX4_isFigure yX4_isFigure, .initialized RX4, .code yX4_isFigure cX4_isFigure 5 (some .boolean), .methodLink RX4 19 yX4_letterAt, .instanceMethod yX4_letterAt, .selects RX4 yX4_letterAt yX4_letterAt, .code yX4_letterAt cX4_letterAt 2 (some .int), .fieldLink RX4 15 "HungryJury$Text" "length" "I", .fieldLink RX4 9 "HungryJury$Text" "letters" "[I", .methodLink RX1 41 yX4_figureAt, .instanceMethod yX4_figureAt, .selects RX4 yX4_figureAt yX4_figureAt, .code yX4_figureAt cX4_figureAt 2 (some .int)] ++ wsX10 ++ wsX40)
def wsX1_pairsLeft : List Cond := .code yX1_pairsLeft cX1_pairsLeft 2 (some .int) :: ([.fieldLink RX1 25 "HungryJury$Panel" "jurors" "I", .fieldLink RX1 18 "HungryJury$Panel" "heeded" "[I"] ++ wsX10)
def wsX1_hasPairLeft : List Cond := .code yX1_hasPairLeft cX1_hasPairLeft 2 (some .boolean) :: ([.fieldLink RX1 25 "HungryJury$Panel" "jurors" "I", .methodLink RX1 58 yX1_pairsLeft, .instanceMethod yX1_pairsLeft, .selects RX1 yX1_pairsLeft yX1_pairsLeft, .initialized RX1, .code yX1_pairsLeft cX1_pairsLeft 2 (some .int), .fieldLink RX1 18 "HungryJury$Panel" "heeded" "[I"] ++ wsX10)
def wsX1_readPair : List Cond := .code yX1_readPair cX1_readPair 5 (some .int) :: ([.fieldLink RX1 18 "HungryJury$Panel" "heeded" "[I", .methodLink RX1 31 yX4_letterAt, .instanceMethod yX4_letterAt, .selects RX4 yX4_letterAt yX4_letterAt, .initialized RX4, .code yX4_letterAt cX4_letterAt 2 (some .int), .fieldLink RX4 15 "HungryJury$Text" "length" "I", .fieldLink RX4 9 "HungryJury$Text" "letters" "[I", .methodLink RX1 54 yX1_hasPairLeft, .instanceMethod yX1_hasPairLeft, .selects RX1 yX1_hasPairLeft yX1_hasPairLeft, .initialized RX1, .code yX1_hasPairLeft cX1_hasPairLeft 2 (some .boolean), .fieldLink RX1 25 "HungryJury$Panel" "jurors" "I", .methodLink RX1 58 yX1_pairsLeft, .instanceMethod yX1_pairsLeft, .selects RX1 yX1_pairsLeft yX1_pairsLeft, .code yX1_pairsLeft cX1_pairsLeft 2 (some .int), .methodLink RX1 41 yX4_figureAt, .instanceMethod yX4_figureAt, .selects RX4 yX4_figureAt yX4_figureAt, .code yX4_figureAt cX4_figureAt 2 (some .int), .methodLink RX4 19 yX4_letterAt] ++ wsX10 ++ wsX40)
def wsX1_readFrom_r1 : List Cond := [Cond.fieldLink RX1 25 "HungryJury$Panel" "jurors" "I", Cond.fieldLink RX1 28 "HungryJury$Panel" "yes" "I", Cond.fieldLink RX1 21 "HungryJury$Panel" "need" "I", Cond.fieldLink RX1 44 "HungryJury$Text" "length" "I", Cond.methodLink RX1 31 yX4_letterAt, Cond.instanceMethod yX4_letterAt, Cond.selects RX4 yX4_letterAt yX4_letterAt, Cond.initialized RX4, Cond.code yX4_letterAt cX4_letterAt 2 (some .int), Cond.fieldLink RX4 15 "HungryJury$Text" "length" "I", Cond.fieldLink RX4 9 "HungryJury$Text" "letters" "[I", Cond.methodLink RX1 37 yX4_isFigure, Cond.instanceMethod yX4_isFigure, Cond.selects RX4 yX4_isFigure yX4_isFigure, Cond.code yX4_isFigure cX4_isFigure 5 (some .boolean), Cond.methodLink RX4 19 yX4_letterAt, Cond.methodLink RX1 41 yX4_figureAt, Cond.instanceMethod yX4_figureAt, Cond.selects RX4 yX4_figureAt yX4_figureAt, Cond.code yX4_figureAt cX4_figureAt 2 (some .int), Cond.methodLink RX1 47 yX1_readJuror, Cond.instanceMethod yX1_readJuror, Cond.selects RX1 yX1_readJuror yX1_readJuror, Cond.initialized RX1]
def wsX1_readFrom_r2 : List Cond := [Cond.code yX1_readJuror cX1_readJuror 3 (some .int), Cond.fieldLink RX1 9 "HungryJury$Panel" "stubborn" "[I", Cond.fieldLink RX1 15 "HungryJury$Panel" "kind" "[I", Cond.fieldLink RX1 18 "HungryJury$Panel" "heeded" "[I", Cond.methodLink RX1 51 yX1_readPair, Cond.instanceMethod yX1_readPair, Cond.selects RX1 yX1_readPair yX1_readPair, Cond.code yX1_readPair cX1_readPair 5 (some .int), Cond.methodLink RX1 54 yX1_hasPairLeft, Cond.instanceMethod yX1_hasPairLeft, Cond.selects RX1 yX1_hasPairLeft yX1_hasPairLeft, Cond.code yX1_hasPairLeft cX1_hasPairLeft 2 (some .boolean), Cond.methodLink RX1 58 yX1_pairsLeft, Cond.instanceMethod yX1_pairsLeft, Cond.selects RX1 yX1_pairsLeft yX1_pairsLeft, Cond.code yX1_pairsLeft cX1_pairsLeft 2 (some .int)]
def wsX1_readFrom : List Cond := .code yX1_readFrom cX1_readFrom 5 (some .int) :: ((wsX1_readFrom_r1 ++ wsX1_readFrom_r2) ++ wsX10 ++ wsX40)
def wsX2_beginAnew : List Cond := .code yX2_beginAnew cX2_beginAnew 2 none :: ([.fieldLink RX2 18 "HungryJury$Room" "panel" "LHungryJury$Panel;", .fieldLink RX2 22 "HungryJury$Panel" "yes" "I", .fieldLink RX2 28 "HungryJury$Room" "yes" "I", .fieldLink RX2 29 "HungryJury$Panel" "jurors" "I", .fieldLink RX2 32 "HungryJury$Room" "there" "I", .fieldLink RX2 35 "HungryJury$Room" "theHour" "I", .fieldLink RX2 9 "HungryJury$Room" "stubborn" "[I", .fieldLink RX2 38 "HungryJury$Panel" "stubborn" "[I", .fieldLink RX2 15 "HungryJury$Room" "hunger" "[I"] ++ wsX20 ++ wsX10)
def wsX2_isThere : List Cond := .code yX2_isThere cX2_isThere 2 (some .boolean) :: ([.fieldLink RX2 32 "HungryJury$Room" "there" "I"] ++ wsX20)
def wsX2_isYes : List Cond := .code yX2_isYes cX2_isYes 2 (some .boolean) :: ([.fieldLink RX2 28 "HungryJury$Room" "yes" "I"] ++ wsX20)
def wsX2_yesThere : List Cond := .code yX2_yesThere cX2_yesThere 1 (some .int) :: ([.fieldLink RX2 28 "HungryJury$Room" "yes" "I", .fieldLink RX2 32 "HungryJury$Room" "there" "I"] ++ wsX20)
def wsJ6_bitCount_0f7a4 : List Cond := .code yJ6_bitCount_0f7a4 cJ6_bitCount_0f7a4 1 (some .int) :: ([.constant RJ6 265 (1431655765), .constant RJ6 266 (858993459), .constant RJ6 267 (252645135)])
def wsX2_carries : List Cond := .code yX2_carries cX2_carries 3 (some .boolean) :: ([.fieldLink RX2 18 "HungryJury$Room" "panel" "LHungryJury$Panel;", .fieldLink RX2 49 "HungryJury$Panel" "need" "I"] ++ wsX20 ++ wsX10)
def wsX2_verdict : List Cond := .code yX2_verdict cX2_verdict 3 (some .int) :: ([.fieldLink RX2 32 "HungryJury$Room" "there" "I", .fieldLink RX2 28 "HungryJury$Room" "yes" "I", .methodLink RX2 39 yJ6_bitCount_0f7a4, .static yJ6_bitCount_0f7a4, .initialized RJ6, .code yJ6_bitCount_0f7a4 cJ6_bitCount_0f7a4 1 (some .int), .constant RJ6 265 (1431655765), .constant RJ6 266 (858993459), .constant RJ6 267 (252645135), .methodLink RX2 45 yX2_carries, .instanceMethod yX2_carries, .selects RX2 yX2_carries yX2_carries, .initialized RX2, .code yX2_carries cX2_carries 3 (some .boolean), .fieldLink RX2 18 "HungryJury$Room" "panel" "LHungryJury$Panel;", .fieldLink RX2 49 "HungryJury$Panel" "need" "I"] ++ wsX20 ++ wsX10)
def wsX2_hungerOfHour : List Cond := .code yX2_hungerOfHour cX2_hungerOfHour 2 (some .int) :: ([.fieldLink RX2 35 "HungryJury$Room" "theHour" "I"] ++ wsX20)
def wsX2_growHungry : List Cond := .code yX2_growHungry cX2_growHungry 2 none :: ([.fieldLink RX2 15 "HungryJury$Room" "hunger" "[I", .fieldLink RX2 18 "HungryJury$Room" "panel" "LHungryJury$Panel;", .fieldLink RX2 66 "HungryJury$Panel" "kind" "[I", .methodLink RX2 72 Lib.Math.min.name, .static Lib.Math.min.name, .initialized "java/lang/Math", .code Lib.Math.min.name Lib.Math.min.code 2 (some .int), .methodLink RX2 59 yX2_isThere, .instanceMethod yX2_isThere, .selects RX2 yX2_isThere yX2_isThere, .initialized RX2, .code yX2_isThere cX2_isThere 2 (some .boolean), .fieldLink RX2 32 "HungryJury$Room" "there" "I", .methodLink RX2 69 yX2_hungerOfHour, .instanceMethod yX2_hungerOfHour, .selects RX2 yX2_hungerOfHour yX2_hungerOfHour, .code yX2_hungerOfHour cX2_hungerOfHour 2 (some .int), .fieldLink RX2 35 "HungryJury$Room" "theHour" "I"] ++ wsX20 ++ wsX10)
def wsX2_mustGiveIn : List Cond := .code yX2_mustGiveIn cX2_mustGiveIn 5 (some .boolean) :: ([.fieldLink RX2 32 "HungryJury$Room" "there" "I", .fieldLink RX2 28 "HungryJury$Room" "yes" "I", .fieldLink RX2 15 "HungryJury$Room" "hunger" "[I", .fieldLink RX2 18 "HungryJury$Room" "panel" "LHungryJury$Panel;", .fieldLink RX2 66 "HungryJury$Panel" "kind" "[I", .fieldLink RX2 81 "HungryJury$Panel" "heeded" "[I", .fieldLink RX2 9 "HungryJury$Room" "stubborn" "[I", .methodLink RX2 78 yX2_isYes, .instanceMethod yX2_isYes, .selects RX2 yX2_isYes yX2_isYes, .initialized RX2, .code yX2_isYes cX2_isYes 2 (some .boolean), .methodLink RX2 39 yJ6_bitCount_0f7a4, .static yJ6_bitCount_0f7a4, .initialized RJ6, .code yJ6_bitCount_0f7a4 cJ6_bitCount_0f7a4 1 (some .int), .constant RJ6 265 (1431655765), .constant RJ6 266 (858993459), .constant RJ6 267 (252645135)] ++ wsX20 ++ wsX10)
def wsX2_passHour_r1 : List Cond := [Cond.fieldLink RX2 35 "HungryJury$Room" "theHour" "I", Cond.fieldLink RX2 28 "HungryJury$Room" "yes" "I", Cond.methodLink RX2 52 yX2_verdict, Cond.instanceMethod yX2_verdict, Cond.selects RX2 yX2_verdict yX2_verdict, Cond.initialized RX2, Cond.code yX2_verdict cX2_verdict 3 (some .int), Cond.fieldLink RX2 32 "HungryJury$Room" "there" "I", Cond.methodLink RX2 39 yJ6_bitCount_0f7a4, Cond.static yJ6_bitCount_0f7a4, Cond.initialized RJ6, Cond.code yJ6_bitCount_0f7a4 cJ6_bitCount_0f7a4 1 (some .int), Cond.constant RJ6 265 (1431655765), Cond.constant RJ6 266 (858993459), Cond.constant RJ6 267 (252645135), Cond.methodLink RX2 45 yX2_carries, Cond.instanceMethod yX2_carries, Cond.selects RX2 yX2_carries yX2_carries, Cond.code yX2_carries cX2_carries 3 (some .boolean), Cond.fieldLink RX2 18 "HungryJury$Room" "panel" "LHungryJury$Panel;", Cond.fieldLink RX2 49 "HungryJury$Panel" "need" "I", Cond.methodLink RX2 56 yX2_growHungry, Cond.instanceMethod yX2_growHungry, Cond.selects RX2 yX2_growHungry yX2_growHungry]
def wsX2_passHour_r2 : List Cond := [Cond.code yX2_growHungry cX2_growHungry 2 none, Cond.fieldLink RX2 15 "HungryJury$Room" "hunger" "[I", Cond.fieldLink RX2 66 "HungryJury$Panel" "kind" "[I", Cond.methodLink RX2 72 Lib.Math.min.name, Cond.static Lib.Math.min.name, Cond.initialized "java/lang/Math", Cond.code Lib.Math.min.name Lib.Math.min.code 2 (some .int), Cond.methodLink RX2 59 yX2_isThere, Cond.instanceMethod yX2_isThere, Cond.selects RX2 yX2_isThere yX2_isThere, Cond.code yX2_isThere cX2_isThere 2 (some .boolean), Cond.methodLink RX2 69 yX2_hungerOfHour, Cond.instanceMethod yX2_hungerOfHour, Cond.selects RX2 yX2_hungerOfHour yX2_hungerOfHour, Cond.code yX2_hungerOfHour cX2_hungerOfHour 2 (some .int), Cond.methodLink RX2 63 yX2_mustGiveIn, Cond.instanceMethod yX2_mustGiveIn, Cond.selects RX2 yX2_mustGiveIn yX2_mustGiveIn, Cond.code yX2_mustGiveIn cX2_mustGiveIn 5 (some .boolean), Cond.fieldLink RX2 81 "HungryJury$Panel" "heeded" "[I", Cond.fieldLink RX2 9 "HungryJury$Room" "stubborn" "[I", Cond.methodLink RX2 78 yX2_isYes, Cond.instanceMethod yX2_isYes, Cond.selects RX2 yX2_isYes yX2_isYes]
def wsX2_passHour_r3 : List Cond := [Cond.code yX2_isYes cX2_isYes 2 (some .boolean)]
def wsX2_passHour : List Cond := .code yX2_passHour cX2_passHour 4 (some .int) :: ((wsX2_passHour_r1 ++ (wsX2_passHour_r2 ++ wsX2_passHour_r3)) ++ wsX20 ++ wsX10)
def wsX2_passHoursToEnd_r1 : List Cond := [Cond.methodLink RX2 52 yX2_verdict, Cond.instanceMethod yX2_verdict, Cond.selects RX2 yX2_verdict yX2_verdict, Cond.initialized RX2, Cond.code yX2_verdict cX2_verdict 3 (some .int), Cond.fieldLink RX2 32 "HungryJury$Room" "there" "I", Cond.fieldLink RX2 28 "HungryJury$Room" "yes" "I", Cond.methodLink RX2 39 yJ6_bitCount_0f7a4, Cond.static yJ6_bitCount_0f7a4, Cond.initialized RJ6, Cond.code yJ6_bitCount_0f7a4 cJ6_bitCount_0f7a4 1 (some .int), Cond.constant RJ6 265 (1431655765), Cond.constant RJ6 266 (858993459), Cond.constant RJ6 267 (252645135), Cond.methodLink RX2 45 yX2_carries, Cond.instanceMethod yX2_carries, Cond.selects RX2 yX2_carries yX2_carries, Cond.code yX2_carries cX2_carries 3 (some .boolean), Cond.fieldLink RX2 18 "HungryJury$Room" "panel" "LHungryJury$Panel;", Cond.fieldLink RX2 49 "HungryJury$Panel" "need" "I", Cond.methodLink RX2 84 yX2_passHour, Cond.instanceMethod yX2_passHour, Cond.selects RX2 yX2_passHour yX2_passHour, Cond.code yX2_passHour cX2_passHour 4 (some .int)]
def wsX2_passHoursToEnd_r2 : List Cond := [Cond.fieldLink RX2 35 "HungryJury$Room" "theHour" "I", Cond.methodLink RX2 56 yX2_growHungry, Cond.instanceMethod yX2_growHungry, Cond.selects RX2 yX2_growHungry yX2_growHungry, Cond.code yX2_growHungry cX2_growHungry 2 none, Cond.fieldLink RX2 15 "HungryJury$Room" "hunger" "[I", Cond.fieldLink RX2 66 "HungryJury$Panel" "kind" "[I", Cond.methodLink RX2 72 Lib.Math.min.name, Cond.static Lib.Math.min.name, Cond.initialized "java/lang/Math", Cond.code Lib.Math.min.name Lib.Math.min.code 2 (some .int), Cond.methodLink RX2 59 yX2_isThere, Cond.instanceMethod yX2_isThere, Cond.selects RX2 yX2_isThere yX2_isThere, Cond.code yX2_isThere cX2_isThere 2 (some .boolean), Cond.methodLink RX2 69 yX2_hungerOfHour, Cond.instanceMethod yX2_hungerOfHour, Cond.selects RX2 yX2_hungerOfHour yX2_hungerOfHour, Cond.code yX2_hungerOfHour cX2_hungerOfHour 2 (some .int), Cond.methodLink RX2 63 yX2_mustGiveIn, Cond.instanceMethod yX2_mustGiveIn, Cond.selects RX2 yX2_mustGiveIn yX2_mustGiveIn, Cond.code yX2_mustGiveIn cX2_mustGiveIn 5 (some .boolean), Cond.fieldLink RX2 81 "HungryJury$Panel" "heeded" "[I"]
def wsX2_passHoursToEnd_r3 : List Cond := [Cond.fieldLink RX2 9 "HungryJury$Room" "stubborn" "[I", Cond.methodLink RX2 78 yX2_isYes, Cond.instanceMethod yX2_isYes, Cond.selects RX2 yX2_isYes yX2_isYes, Cond.code yX2_isYes cX2_isYes 2 (some .boolean)]
def wsX2_passHoursToEnd : List Cond := .code yX2_passHoursToEnd cX2_passHoursToEnd 2 (some .int) :: ((wsX2_passHoursToEnd_r1 ++ (wsX2_passHoursToEnd_r2 ++ wsX2_passHoursToEnd_r3)) ++ wsX20 ++ wsX10)
def wsX2_canDo : List Cond := .code yX2_canDo cX2_canDo 3 (some .boolean) :: ([.fieldLink RX2 9 "HungryJury$Room" "stubborn" "[I", .fieldLink RX2 15 "HungryJury$Room" "hunger" "[I", .methodLink RX2 59 yX2_isThere, .instanceMethod yX2_isThere, .selects RX2 yX2_isThere yX2_isThere, .initialized RX2, .code yX2_isThere cX2_isThere 2 (some .boolean), .fieldLink RX2 32 "HungryJury$Room" "there" "I"] ++ wsX20)
def wsX2_carryOut_r1 : List Cond := [Cond.fieldLink RX2 9 "HungryJury$Room" "stubborn" "[I", Cond.methodLink RX2 87 Lib.Math.max.name, Cond.static Lib.Math.max.name, Cond.initialized "java/lang/Math", Cond.code Lib.Math.max.name Lib.Math.max.code 2 (some .int), Cond.fieldLink RX2 15 "HungryJury$Room" "hunger" "[I", Cond.fieldLink RX2 32 "HungryJury$Room" "there" "I", Cond.fieldLink RX2 35 "HungryJury$Room" "theHour" "I", Cond.fieldLink RX2 28 "HungryJury$Room" "yes" "I", Cond.methodLink RX2 84 yX2_passHour, Cond.instanceMethod yX2_passHour, Cond.selects RX2 yX2_passHour yX2_passHour, Cond.initialized RX2, Cond.code yX2_passHour cX2_passHour 4 (some .int), Cond.methodLink RX2 52 yX2_verdict, Cond.instanceMethod yX2_verdict, Cond.selects RX2 yX2_verdict yX2_verdict, Cond.code yX2_verdict cX2_verdict 3 (some .int), Cond.methodLink RX2 39 yJ6_bitCount_0f7a4, Cond.static yJ6_bitCount_0f7a4, Cond.initialized RJ6, Cond.code yJ6_bitCount_0f7a4 cJ6_bitCount_0f7a4 1 (some .int), Cond.constant RJ6 265 (1431655765), Cond.constant RJ6 266 (858993459)]
def wsX2_carryOut_r2 : List Cond := [Cond.constant RJ6 267 (252645135), Cond.methodLink RX2 45 yX2_carries, Cond.instanceMethod yX2_carries, Cond.selects RX2 yX2_carries yX2_carries, Cond.code yX2_carries cX2_carries 3 (some .boolean), Cond.fieldLink RX2 18 "HungryJury$Room" "panel" "LHungryJury$Panel;", Cond.fieldLink RX2 49 "HungryJury$Panel" "need" "I", Cond.methodLink RX2 56 yX2_growHungry, Cond.instanceMethod yX2_growHungry, Cond.selects RX2 yX2_growHungry yX2_growHungry, Cond.code yX2_growHungry cX2_growHungry 2 none, Cond.fieldLink RX2 66 "HungryJury$Panel" "kind" "[I", Cond.methodLink RX2 72 Lib.Math.min.name, Cond.static Lib.Math.min.name, Cond.code Lib.Math.min.name Lib.Math.min.code 2 (some .int), Cond.methodLink RX2 59 yX2_isThere, Cond.instanceMethod yX2_isThere, Cond.selects RX2 yX2_isThere yX2_isThere, Cond.code yX2_isThere cX2_isThere 2 (some .boolean), Cond.methodLink RX2 69 yX2_hungerOfHour, Cond.instanceMethod yX2_hungerOfHour, Cond.selects RX2 yX2_hungerOfHour yX2_hungerOfHour, Cond.code yX2_hungerOfHour cX2_hungerOfHour 2 (some .int), Cond.methodLink RX2 63 yX2_mustGiveIn]
def wsX2_carryOut_r3 : List Cond := [Cond.instanceMethod yX2_mustGiveIn, Cond.selects RX2 yX2_mustGiveIn yX2_mustGiveIn, Cond.code yX2_mustGiveIn cX2_mustGiveIn 5 (some .boolean), Cond.fieldLink RX2 81 "HungryJury$Panel" "heeded" "[I", Cond.methodLink RX2 78 yX2_isYes, Cond.instanceMethod yX2_isYes, Cond.selects RX2 yX2_isYes yX2_isYes, Cond.code yX2_isYes cX2_isYes 2 (some .boolean)]
def wsX2_carryOut : List Cond := .code yX2_carryOut cX2_carryOut 3 none :: ((wsX2_carryOut_r1 ++ (wsX2_carryOut_r2 ++ wsX2_carryOut_r3)) ++ wsX20 ++ wsX10)
def wsX3_init : List Cond := .code yX3_init cX3_init 1 none :: ([.methodLink RX3 3 objectInit, .instanceMethod objectInit, .code objectInit ⟨#[0xb1]⟩ 1 none, .arrayClass .int, .fieldLink RX3 9 "HungryJury$Sights" "who" "[I", .fieldLink RX3 15 "HungryJury$Sights" "hours" "[I", .fieldLink RX3 18 "HungryJury$Sights" "side" "[I"] ++ wsX30)
def wsX3_add : List Cond := .code yX3_add cX3_add 4 (some .boolean) :: ([.fieldLink RX3 21 "HungryJury$Sights" "size" "I", .fieldLink RX3 9 "HungryJury$Sights" "who" "[I", .fieldLink RX3 15 "HungryJury$Sights" "hours" "[I", .fieldLink RX3 18 "HungryJury$Sights" "side" "[I"] ++ wsX30)
def wsX3_fit : List Cond := .code yX3_fit cX3_fit 5 (some .boolean) :: ([.fieldLink RX3 21 "HungryJury$Sights" "size" "I", .fieldLink RX3 15 "HungryJury$Sights" "hours" "[I", .fieldLink RX3 9 "HungryJury$Sights" "who" "[I", .fieldLink RX3 18 "HungryJury$Sights" "side" "[I", .methodLink RX3 25 yX2_isThere, .instanceMethod yX2_isThere, .selects RX2 yX2_isThere yX2_isThere, .initialized RX2, .code yX2_isThere cX2_isThere 2 (some .boolean), .fieldLink RX2 32 "HungryJury$Room" "there" "I", .methodLink RX3 31 yX2_isYes, .instanceMethod yX2_isYes, .selects RX2 yX2_isYes yX2_isYes, .code yX2_isYes cX2_isYes 2 (some .boolean), .fieldLink RX2 28 "HungryJury$Room" "yes" "I"] ++ wsX30 ++ wsX20)
def wsX4_init : List Cond := .code yX4_init cX4_init 1 none :: ([.methodLink RX4 3 objectInit, .instanceMethod objectInit, .code objectInit ⟨#[0xb1]⟩ 1 none, .arrayClass .int, .fieldLink RX4 9 "HungryJury$Text" "letters" "[I"] ++ wsX40)
def wsX4_add : List Cond := .code yX4_add cX4_add 2 (some .boolean) :: ([.fieldLink RX4 15 "HungryJury$Text" "length" "I", .fieldLink RX4 9 "HungryJury$Text" "letters" "[I"] ++ wsX40)
def wsX5_init_r1 : List Cond := [Cond.methodLink RX5 3 objectInit, Cond.instanceMethod objectInit, Cond.code objectInit ⟨#[0xb1]⟩ 1 none, Cond.classLink RX5 9 RX4, Cond.instantiable RX4 2, Cond.initialized RX4, Cond.fieldLink RX5 12 "HungryJury" "text" "LHungryJury$Text;", Cond.classLink RX5 16 RX1, Cond.instantiable RX1 6, Cond.initialized RX1, Cond.fieldLink RX5 19 "HungryJury" "panel" "LHungryJury$Panel;", Cond.fieldLink RX5 23 "HungryJury" "draft" "LHungryJury$Panel;", Cond.classLink RX5 26 RX2, Cond.instantiable RX2 6, Cond.initialized RX2, Cond.fieldLink RX5 31 "HungryJury" "now" "LHungryJury$Room;", Cond.fieldLink RX5 35 "HungryJury" "trial" "LHungryJury$Room;", Cond.classLink RX5 38 RX0, Cond.instantiable RX0 2, Cond.initialized RX0, Cond.fieldLink RX5 41 "HungryJury" "acts" "LHungryJury$Acts;", Cond.fieldLink RX5 45 "HungryJury" "slots" "[LHungryJury$Room;", Cond.arrayClass .boolean, Cond.fieldLink RX5 49 "HungryJury" "isKept" "[Z"]
def wsX5_init_r2 : List Cond := [Cond.classLink RX5 53 RX3, Cond.instantiable RX3 4, Cond.initialized RX3, Cond.fieldLink RX5 56 "HungryJury" "sights" "LHungryJury$Sights;", Cond.instanceMethod yX4_init, Cond.code yX4_init cX4_init 1 none, Cond.methodLink RX4 3 objectInit, Cond.arrayClass .int, Cond.fieldLink RX4 9 "HungryJury$Text" "letters" "[I", Cond.instanceMethod yX1_init, Cond.code yX1_init cX1_init 1 none, Cond.methodLink RX1 3 objectInit, Cond.fieldLink RX1 9 "HungryJury$Panel" "stubborn" "[I", Cond.fieldLink RX1 15 "HungryJury$Panel" "kind" "[I", Cond.fieldLink RX1 18 "HungryJury$Panel" "heeded" "[I", Cond.fieldLink RX1 21 "HungryJury$Panel" "need" "I", Cond.methodLink RX5 28 yX2_init, Cond.instanceMethod yX2_init, Cond.code yX2_init cX2_init 2 none, Cond.methodLink RX2 3 objectInit, Cond.fieldLink RX2 9 "HungryJury$Room" "stubborn" "[I", Cond.fieldLink RX2 15 "HungryJury$Room" "hunger" "[I", Cond.fieldLink RX2 18 "HungryJury$Room" "panel" "LHungryJury$Panel;", Cond.methodLink RX5 40 yX0_init]
def wsX5_init_r3 : List Cond := [Cond.instanceMethod yX0_init, Cond.code yX0_init cX0_init 3 none, Cond.methodLink RX0 3 objectInit, Cond.classLink RX0 9 RX2, Cond.fieldLink RX0 11 "HungryJury$Acts" "before" "[LHungryJury$Room;", Cond.methodLink RX0 17 yX2_init, Cond.instanceMethod yX3_init, Cond.code yX3_init cX3_init 1 none, Cond.methodLink RX3 3 objectInit, Cond.fieldLink RX3 9 "HungryJury$Sights" "who" "[I", Cond.fieldLink RX3 15 "HungryJury$Sights" "hours" "[I", Cond.fieldLink RX3 18 "HungryJury$Sights" "side" "[I"]
def wsX5_init : List Cond := .code yX5_init cX5_init 2 none :: ((wsX5_init_r1 ++ (wsX5_init_r2 ++ wsX5_init_r3)) ++ wsX40 ++ wsX50 ++ wsX10 ++ wsX20 ++ wsX00 ++ wsX30)
def wsX5_write : List Cond := .code yX5_write cX5_write 2 (some .int) :: ([.fieldLink RX5 12 "HungryJury" "text" "LHungryJury$Text;", .fieldLink RX5 64 "HungryJury$Text" "length" "I", .methodLink RX5 60 yX4_add, .instanceMethod yX4_add, .selects RX4 yX4_add yX4_add, .initialized RX4, .code yX4_add cX4_add 2 (some .boolean), .fieldLink RX4 15 "HungryJury$Text" "length" "I", .fieldLink RX4 9 "HungryJury$Text" "letters" "[I"] ++ wsX50 ++ wsX40)
def wsX5_wipe : List Cond := .code yX5_wipe cX5_wipe 2 (some .int) :: ([.fieldLink RX5 12 "HungryJury" "text" "LHungryJury$Text;", .fieldLink RX5 64 "HungryJury$Text" "length" "I"] ++ wsX50 ++ wsX40)
def wsX5_fault_r1 : List Cond := [Cond.fieldLink RX5 23 "HungryJury" "draft" "LHungryJury$Panel;", Cond.fieldLink RX5 12 "HungryJury" "text" "LHungryJury$Text;", Cond.methodLink RX5 68 yX1_readFrom, Cond.instanceMethod yX1_readFrom, Cond.selects RX1 yX1_readFrom yX1_readFrom, Cond.initialized RX1, Cond.code yX1_readFrom cX1_readFrom 5 (some .int), Cond.fieldLink RX1 25 "HungryJury$Panel" "jurors" "I", Cond.fieldLink RX1 28 "HungryJury$Panel" "yes" "I", Cond.fieldLink RX1 21 "HungryJury$Panel" "need" "I", Cond.fieldLink RX1 44 "HungryJury$Text" "length" "I", Cond.methodLink RX1 31 yX4_letterAt, Cond.instanceMethod yX4_letterAt, Cond.selects RX4 yX4_letterAt yX4_letterAt, Cond.initialized RX4, Cond.code yX4_letterAt cX4_letterAt 2 (some .int), Cond.fieldLink RX4 15 "HungryJury$Text" "length" "I", Cond.fieldLink RX4 9 "HungryJury$Text" "letters" "[I", Cond.methodLink RX1 37 yX4_isFigure, Cond.instanceMethod yX4_isFigure, Cond.selects RX4 yX4_isFigure yX4_isFigure, Cond.code yX4_isFigure cX4_isFigure 5 (some .boolean), Cond.methodLink RX4 19 yX4_letterAt, Cond.methodLink RX1 41 yX4_figureAt]
def wsX5_fault_r2 : List Cond := [Cond.instanceMethod yX4_figureAt, Cond.selects RX4 yX4_figureAt yX4_figureAt, Cond.code yX4_figureAt cX4_figureAt 2 (some .int), Cond.methodLink RX1 47 yX1_readJuror, Cond.instanceMethod yX1_readJuror, Cond.selects RX1 yX1_readJuror yX1_readJuror, Cond.code yX1_readJuror cX1_readJuror 3 (some .int), Cond.fieldLink RX1 9 "HungryJury$Panel" "stubborn" "[I", Cond.fieldLink RX1 15 "HungryJury$Panel" "kind" "[I", Cond.fieldLink RX1 18 "HungryJury$Panel" "heeded" "[I", Cond.methodLink RX1 51 yX1_readPair, Cond.instanceMethod yX1_readPair, Cond.selects RX1 yX1_readPair yX1_readPair, Cond.code yX1_readPair cX1_readPair 5 (some .int), Cond.methodLink RX1 54 yX1_hasPairLeft, Cond.instanceMethod yX1_hasPairLeft, Cond.selects RX1 yX1_hasPairLeft yX1_hasPairLeft, Cond.code yX1_hasPairLeft cX1_hasPairLeft 2 (some .boolean), Cond.methodLink RX1 58 yX1_pairsLeft, Cond.instanceMethod yX1_pairsLeft, Cond.selects RX1 yX1_pairsLeft yX1_pairsLeft, Cond.code yX1_pairsLeft cX1_pairsLeft 2 (some .int)]
def wsX5_fault : List Cond := .code yX5_fault cX5_fault 1 (some .int) :: ((wsX5_fault_r1 ++ wsX5_fault_r2) ++ wsX50 ++ wsX10 ++ wsX40)
def wsX5_jury_r1 : List Cond := [Cond.fieldLink RX5 23 "HungryJury" "draft" "LHungryJury$Panel;", Cond.fieldLink RX5 12 "HungryJury" "text" "LHungryJury$Text;", Cond.fieldLink RX5 19 "HungryJury" "panel" "LHungryJury$Panel;", Cond.fieldLink RX5 31 "HungryJury" "now" "LHungryJury$Room;", Cond.fieldLink RX5 41 "HungryJury" "acts" "LHungryJury$Acts;", Cond.fieldLink RX5 49 "HungryJury" "isKept" "[Z", Cond.fieldLink RX5 78 "HungryJury$Panel" "jurors" "I", Cond.methodLink RX5 68 yX1_readFrom, Cond.instanceMethod yX1_readFrom, Cond.selects RX1 yX1_readFrom yX1_readFrom, Cond.initialized RX1, Cond.code yX1_readFrom cX1_readFrom 5 (some .int), Cond.fieldLink RX1 25 "HungryJury$Panel" "jurors" "I", Cond.fieldLink RX1 28 "HungryJury$Panel" "yes" "I", Cond.fieldLink RX1 21 "HungryJury$Panel" "need" "I", Cond.fieldLink RX1 44 "HungryJury$Text" "length" "I", Cond.methodLink RX1 31 yX4_letterAt, Cond.instanceMethod yX4_letterAt, Cond.selects RX4 yX4_letterAt yX4_letterAt, Cond.initialized RX4, Cond.code yX4_letterAt cX4_letterAt 2 (some .int), Cond.fieldLink RX4 15 "HungryJury$Text" "length" "I", Cond.fieldLink RX4 9 "HungryJury$Text" "letters" "[I", Cond.methodLink RX1 37 yX4_isFigure]
def wsX5_jury_r2 : List Cond := [Cond.instanceMethod yX4_isFigure, Cond.selects RX4 yX4_isFigure yX4_isFigure, Cond.code yX4_isFigure cX4_isFigure 5 (some .boolean), Cond.methodLink RX4 19 yX4_letterAt, Cond.methodLink RX1 41 yX4_figureAt, Cond.instanceMethod yX4_figureAt, Cond.selects RX4 yX4_figureAt yX4_figureAt, Cond.code yX4_figureAt cX4_figureAt 2 (some .int), Cond.methodLink RX1 47 yX1_readJuror, Cond.instanceMethod yX1_readJuror, Cond.selects RX1 yX1_readJuror yX1_readJuror, Cond.code yX1_readJuror cX1_readJuror 3 (some .int), Cond.fieldLink RX1 9 "HungryJury$Panel" "stubborn" "[I", Cond.fieldLink RX1 15 "HungryJury$Panel" "kind" "[I", Cond.fieldLink RX1 18 "HungryJury$Panel" "heeded" "[I", Cond.methodLink RX1 51 yX1_readPair, Cond.instanceMethod yX1_readPair, Cond.selects RX1 yX1_readPair yX1_readPair, Cond.code yX1_readPair cX1_readPair 5 (some .int), Cond.methodLink RX1 54 yX1_hasPairLeft, Cond.instanceMethod yX1_hasPairLeft, Cond.selects RX1 yX1_hasPairLeft yX1_hasPairLeft, Cond.code yX1_hasPairLeft cX1_hasPairLeft 2 (some .boolean), Cond.methodLink RX1 58 yX1_pairsLeft]
def wsX5_jury_r3 : List Cond := [Cond.instanceMethod yX1_pairsLeft, Cond.selects RX1 yX1_pairsLeft yX1_pairsLeft, Cond.code yX1_pairsLeft cX1_pairsLeft 2 (some .int), Cond.methodLink RX5 72 yX2_beginAnew, Cond.instanceMethod yX2_beginAnew, Cond.selects RX2 yX2_beginAnew yX2_beginAnew, Cond.initialized RX2, Cond.code yX2_beginAnew cX2_beginAnew 2 none, Cond.fieldLink RX2 18 "HungryJury$Room" "panel" "LHungryJury$Panel;", Cond.fieldLink RX2 22 "HungryJury$Panel" "yes" "I", Cond.fieldLink RX2 28 "HungryJury$Room" "yes" "I", Cond.fieldLink RX2 29 "HungryJury$Panel" "jurors" "I", Cond.fieldLink RX2 32 "HungryJury$Room" "there" "I", Cond.fieldLink RX2 35 "HungryJury$Room" "theHour" "I", Cond.fieldLink RX2 9 "HungryJury$Room" "stubborn" "[I", Cond.fieldLink RX2 38 "HungryJury$Panel" "stubborn" "[I", Cond.fieldLink RX2 15 "HungryJury$Room" "hunger" "[I", Cond.methodLink RX5 75 yX0_forgetAll, Cond.instanceMethod yX0_forgetAll, Cond.selects RX0 yX0_forgetAll yX0_forgetAll, Cond.initialized RX0, Cond.code yX0_forgetAll cX0_forgetAll 1 none, Cond.fieldLink RX0 20 "HungryJury$Acts" "size" "I"]
def wsX5_jury : List Cond := .code yX5_jury cX5_jury 2 (some .int) :: ((wsX5_jury_r1 ++ (wsX5_jury_r2 ++ wsX5_jury_r3)) ++ wsX50 ++ wsX10 ++ wsX40 ++ wsX20 ++ wsX00)
def wsX5_isJuror : List Cond := .code yX5_isJuror cX5_isJuror 2 (some .boolean) :: ([.fieldLink RX5 19 "HungryJury" "panel" "LHungryJury$Panel;", .fieldLink RX5 78 "HungryJury$Panel" "jurors" "I"] ++ wsX50 ++ wsX10)
def wsX5_juror : List Cond := .code yX5_juror cX5_juror 3 (some .int) :: ([.fieldLink RX5 31 "HungryJury" "now" "LHungryJury$Room;", .fieldLink RX5 87 "HungryJury$Room" "stubborn" "[I", .fieldLink RX5 19 "HungryJury" "panel" "LHungryJury$Panel;", .fieldLink RX5 91 "HungryJury$Panel" "kind" "[I", .fieldLink RX5 94 "HungryJury$Room" "hunger" "[I", .fieldLink RX5 97 "HungryJury$Panel" "heeded" "[I", .methodLink RX5 81 yX5_isJuror, .instanceMethod yX5_isJuror, .selects RX5 yX5_isJuror yX5_isJuror, .initialized RX5, .code yX5_isJuror cX5_isJuror 2 (some .boolean), .fieldLink RX5 78 "HungryJury$Panel" "jurors" "I", .methodLink RX5 84 yX2_isYes, .instanceMethod yX2_isYes, .selects RX2 yX2_isYes yX2_isYes, .initialized RX2, .code yX2_isYes cX2_isYes 2 (some .boolean), .fieldLink RX2 28 "HungryJury$Room" "yes" "I", .methodLink RX5 100 yX2_isThere, .instanceMethod yX2_isThere, .selects RX2 yX2_isThere yX2_isThere, .code yX2_isThere cX2_isThere 2 (some .boolean), .fieldLink RX2 32 "HungryJury$Room" "there" "I"] ++ wsX50 ++ wsX20 ++ wsX10)
def wsX5_hour_r1 : List Cond := [Cond.fieldLink RX5 41 "HungryJury" "acts" "LHungryJury$Acts;", Cond.fieldLink RX5 31 "HungryJury" "now" "LHungryJury$Room;", Cond.methodLink RX5 103 yX0_remember, Cond.instanceMethod yX0_remember, Cond.selects RX0 yX0_remember yX0_remember, Cond.initialized RX0, Cond.code yX0_remember cX0_remember 2 none, Cond.fieldLink RX0 20 "HungryJury$Acts" "size" "I", Cond.fieldLink RX0 11 "HungryJury$Acts" "before" "[LHungryJury$Room;", Cond.methodLink RX0 24 yX0_forgetOldest, Cond.instanceMethod yX0_forgetOldest, Cond.selects RX0 yX0_forgetOldest yX0_forgetOldest, Cond.code yX0_forgetOldest cX0_forgetOldest 3 none, Cond.methodLink RX0 27 yX2_copyFrom, Cond.instanceMethod yX2_copyFrom, Cond.selects RX2 yX2_copyFrom yX2_copyFrom, Cond.initialized RX2, Cond.code yX2_copyFrom cX2_copyFrom 3 none, Cond.fieldLink RX2 28 "HungryJury$Room" "yes" "I", Cond.fieldLink RX2 32 "HungryJury$Room" "there" "I", Cond.fieldLink RX2 35 "HungryJury$Room" "theHour" "I", Cond.fieldLink RX2 9 "HungryJury$Room" "stubborn" "[I", Cond.fieldLink RX2 15 "HungryJury$Room" "hunger" "[I", Cond.methodLink RX5 107 yX2_passHour]
def wsX5_hour_r2 : List Cond := [Cond.instanceMethod yX2_passHour, Cond.selects RX2 yX2_passHour yX2_passHour, Cond.code yX2_passHour cX2_passHour 4 (some .int), Cond.methodLink RX2 52 yX2_verdict, Cond.instanceMethod yX2_verdict, Cond.selects RX2 yX2_verdict yX2_verdict, Cond.code yX2_verdict cX2_verdict 3 (some .int), Cond.methodLink RX2 39 yJ6_bitCount_0f7a4, Cond.static yJ6_bitCount_0f7a4, Cond.initialized RJ6, Cond.code yJ6_bitCount_0f7a4 cJ6_bitCount_0f7a4 1 (some .int), Cond.constant RJ6 265 (1431655765), Cond.constant RJ6 266 (858993459), Cond.constant RJ6 267 (252645135), Cond.methodLink RX2 45 yX2_carries, Cond.instanceMethod yX2_carries, Cond.selects RX2 yX2_carries yX2_carries, Cond.code yX2_carries cX2_carries 3 (some .boolean), Cond.fieldLink RX2 18 "HungryJury$Room" "panel" "LHungryJury$Panel;", Cond.fieldLink RX2 49 "HungryJury$Panel" "need" "I", Cond.methodLink RX2 56 yX2_growHungry, Cond.instanceMethod yX2_growHungry, Cond.selects RX2 yX2_growHungry yX2_growHungry, Cond.code yX2_growHungry cX2_growHungry 2 none]
def wsX5_hour_r3 : List Cond := [Cond.fieldLink RX2 66 "HungryJury$Panel" "kind" "[I", Cond.methodLink RX2 72 Lib.Math.min.name, Cond.static Lib.Math.min.name, Cond.initialized "java/lang/Math", Cond.code Lib.Math.min.name Lib.Math.min.code 2 (some .int), Cond.methodLink RX2 59 yX2_isThere, Cond.instanceMethod yX2_isThere, Cond.selects RX2 yX2_isThere yX2_isThere, Cond.code yX2_isThere cX2_isThere 2 (some .boolean), Cond.methodLink RX2 69 yX2_hungerOfHour, Cond.instanceMethod yX2_hungerOfHour, Cond.selects RX2 yX2_hungerOfHour yX2_hungerOfHour, Cond.code yX2_hungerOfHour cX2_hungerOfHour 2 (some .int), Cond.methodLink RX2 63 yX2_mustGiveIn, Cond.instanceMethod yX2_mustGiveIn, Cond.selects RX2 yX2_mustGiveIn yX2_mustGiveIn, Cond.code yX2_mustGiveIn cX2_mustGiveIn 5 (some .boolean), Cond.fieldLink RX2 81 "HungryJury$Panel" "heeded" "[I", Cond.methodLink RX2 78 yX2_isYes, Cond.instanceMethod yX2_isYes, Cond.selects RX2 yX2_isYes yX2_isYes, Cond.code yX2_isYes cX2_isYes 2 (some .boolean), Cond.methodLink RX5 111 yJ6_bitCount_0f7a4]
def wsX5_hour : List Cond := .code yX5_hour cX5_hour 1 (some .int) :: ((wsX5_hour_r1 ++ (wsX5_hour_r2 ++ wsX5_hour_r3)) ++ wsX50 ++ wsX00 ++ wsX20 ++ wsX10)
def wsX5_doAct_r1 : List Cond := [Cond.fieldLink RX5 31 "HungryJury" "now" "LHungryJury$Room;", Cond.fieldLink RX5 41 "HungryJury" "acts" "LHungryJury$Acts;", Cond.methodLink RX5 81 yX5_isJuror, Cond.instanceMethod yX5_isJuror, Cond.selects RX5 yX5_isJuror yX5_isJuror, Cond.initialized RX5, Cond.code yX5_isJuror cX5_isJuror 2 (some .boolean), Cond.fieldLink RX5 19 "HungryJury" "panel" "LHungryJury$Panel;", Cond.fieldLink RX5 78 "HungryJury$Panel" "jurors" "I", Cond.methodLink RX5 158 yX2_canDo, Cond.instanceMethod yX2_canDo, Cond.selects RX2 yX2_canDo yX2_canDo, Cond.initialized RX2, Cond.code yX2_canDo cX2_canDo 3 (some .boolean), Cond.fieldLink RX2 9 "HungryJury$Room" "stubborn" "[I", Cond.fieldLink RX2 15 "HungryJury$Room" "hunger" "[I", Cond.methodLink RX2 59 yX2_isThere, Cond.instanceMethod yX2_isThere, Cond.selects RX2 yX2_isThere yX2_isThere, Cond.code yX2_isThere cX2_isThere 2 (some .boolean), Cond.fieldLink RX2 32 "HungryJury$Room" "there" "I", Cond.methodLink RX5 103 yX0_remember, Cond.instanceMethod yX0_remember, Cond.selects RX0 yX0_remember yX0_remember]
def wsX5_doAct_r2 : List Cond := [Cond.initialized RX0, Cond.code yX0_remember cX0_remember 2 none, Cond.fieldLink RX0 20 "HungryJury$Acts" "size" "I", Cond.fieldLink RX0 11 "HungryJury$Acts" "before" "[LHungryJury$Room;", Cond.methodLink RX0 24 yX0_forgetOldest, Cond.instanceMethod yX0_forgetOldest, Cond.selects RX0 yX0_forgetOldest yX0_forgetOldest, Cond.code yX0_forgetOldest cX0_forgetOldest 3 none, Cond.methodLink RX0 27 yX2_copyFrom, Cond.instanceMethod yX2_copyFrom, Cond.selects RX2 yX2_copyFrom yX2_copyFrom, Cond.code yX2_copyFrom cX2_copyFrom 3 none, Cond.fieldLink RX2 28 "HungryJury$Room" "yes" "I", Cond.fieldLink RX2 35 "HungryJury$Room" "theHour" "I", Cond.methodLink RX5 162 yX2_carryOut, Cond.instanceMethod yX2_carryOut, Cond.selects RX2 yX2_carryOut yX2_carryOut, Cond.code yX2_carryOut cX2_carryOut 3 none, Cond.methodLink RX2 87 Lib.Math.max.name, Cond.static Lib.Math.max.name, Cond.initialized "java/lang/Math", Cond.code Lib.Math.max.name Lib.Math.max.code 2 (some .int), Cond.methodLink RX2 84 yX2_passHour, Cond.instanceMethod yX2_passHour]
def wsX5_doAct_r3 : List Cond := [Cond.selects RX2 yX2_passHour yX2_passHour, Cond.code yX2_passHour cX2_passHour 4 (some .int), Cond.methodLink RX2 52 yX2_verdict, Cond.instanceMethod yX2_verdict, Cond.selects RX2 yX2_verdict yX2_verdict, Cond.code yX2_verdict cX2_verdict 3 (some .int), Cond.methodLink RX2 39 yJ6_bitCount_0f7a4, Cond.static yJ6_bitCount_0f7a4, Cond.initialized RJ6, Cond.code yJ6_bitCount_0f7a4 cJ6_bitCount_0f7a4 1 (some .int), Cond.constant RJ6 265 (1431655765), Cond.constant RJ6 266 (858993459), Cond.constant RJ6 267 (252645135), Cond.methodLink RX2 45 yX2_carries, Cond.instanceMethod yX2_carries, Cond.selects RX2 yX2_carries yX2_carries, Cond.code yX2_carries cX2_carries 3 (some .boolean), Cond.fieldLink RX2 18 "HungryJury$Room" "panel" "LHungryJury$Panel;", Cond.fieldLink RX2 49 "HungryJury$Panel" "need" "I", Cond.methodLink RX2 56 yX2_growHungry, Cond.instanceMethod yX2_growHungry, Cond.selects RX2 yX2_growHungry yX2_growHungry, Cond.code yX2_growHungry cX2_growHungry 2 none, Cond.fieldLink RX2 66 "HungryJury$Panel" "kind" "[I"]
def wsX5_doAct_r4 : List Cond := [Cond.methodLink RX2 72 Lib.Math.min.name, Cond.static Lib.Math.min.name, Cond.code Lib.Math.min.name Lib.Math.min.code 2 (some .int), Cond.methodLink RX2 69 yX2_hungerOfHour, Cond.instanceMethod yX2_hungerOfHour, Cond.selects RX2 yX2_hungerOfHour yX2_hungerOfHour, Cond.code yX2_hungerOfHour cX2_hungerOfHour 2 (some .int), Cond.methodLink RX2 63 yX2_mustGiveIn, Cond.instanceMethod yX2_mustGiveIn, Cond.selects RX2 yX2_mustGiveIn yX2_mustGiveIn, Cond.code yX2_mustGiveIn cX2_mustGiveIn 5 (some .boolean), Cond.fieldLink RX2 81 "HungryJury$Panel" "heeded" "[I", Cond.methodLink RX2 78 yX2_isYes, Cond.instanceMethod yX2_isYes, Cond.selects RX2 yX2_isYes yX2_isYes, Cond.code yX2_isYes cX2_isYes 2 (some .boolean)]
def wsX5_doAct : List Cond := .code yX5_doAct cX5_doAct 3 (some .int) :: ((wsX5_doAct_r1 ++ (wsX5_doAct_r2 ++ (wsX5_doAct_r3 ++ wsX5_doAct_r4))) ++ wsX50 ++ wsX10 ++ wsX20 ++ wsX00)
def wsX5_argue_r1 : List Cond := [Cond.fieldLink RX5 31 "HungryJury" "now" "LHungryJury$Room;", Cond.fieldLink RX5 87 "HungryJury$Room" "stubborn" "[I", Cond.methodLink RX5 117 yX5_doAct, Cond.instanceMethod yX5_doAct, Cond.selects RX5 yX5_doAct yX5_doAct, Cond.initialized RX5, Cond.code yX5_doAct cX5_doAct 3 (some .int), Cond.fieldLink RX5 41 "HungryJury" "acts" "LHungryJury$Acts;", Cond.methodLink RX5 81 yX5_isJuror, Cond.instanceMethod yX5_isJuror, Cond.selects RX5 yX5_isJuror yX5_isJuror, Cond.code yX5_isJuror cX5_isJuror 2 (some .boolean), Cond.fieldLink RX5 19 "HungryJury" "panel" "LHungryJury$Panel;", Cond.fieldLink RX5 78 "HungryJury$Panel" "jurors" "I", Cond.methodLink RX5 158 yX2_canDo, Cond.instanceMethod yX2_canDo, Cond.selects RX2 yX2_canDo yX2_canDo, Cond.initialized RX2, Cond.code yX2_canDo cX2_canDo 3 (some .boolean), Cond.fieldLink RX2 9 "HungryJury$Room" "stubborn" "[I", Cond.fieldLink RX2 15 "HungryJury$Room" "hunger" "[I", Cond.methodLink RX2 59 yX2_isThere, Cond.instanceMethod yX2_isThere, Cond.selects RX2 yX2_isThere yX2_isThere]
def wsX5_argue_r2 : List Cond := [Cond.code yX2_isThere cX2_isThere 2 (some .boolean), Cond.fieldLink RX2 32 "HungryJury$Room" "there" "I", Cond.methodLink RX5 103 yX0_remember, Cond.instanceMethod yX0_remember, Cond.selects RX0 yX0_remember yX0_remember, Cond.initialized RX0, Cond.code yX0_remember cX0_remember 2 none, Cond.fieldLink RX0 20 "HungryJury$Acts" "size" "I", Cond.fieldLink RX0 11 "HungryJury$Acts" "before" "[LHungryJury$Room;", Cond.methodLink RX0 24 yX0_forgetOldest, Cond.instanceMethod yX0_forgetOldest, Cond.selects RX0 yX0_forgetOldest yX0_forgetOldest, Cond.code yX0_forgetOldest cX0_forgetOldest 3 none, Cond.methodLink RX0 27 yX2_copyFrom, Cond.instanceMethod yX2_copyFrom, Cond.selects RX2 yX2_copyFrom yX2_copyFrom, Cond.code yX2_copyFrom cX2_copyFrom 3 none, Cond.fieldLink RX2 28 "HungryJury$Room" "yes" "I", Cond.fieldLink RX2 35 "HungryJury$Room" "theHour" "I", Cond.methodLink RX5 162 yX2_carryOut, Cond.instanceMethod yX2_carryOut, Cond.selects RX2 yX2_carryOut yX2_carryOut, Cond.code yX2_carryOut cX2_carryOut 3 none, Cond.methodLink RX2 87 Lib.Math.max.name]
def wsX5_argue_r3 : List Cond := [Cond.static Lib.Math.max.name, Cond.initialized "java/lang/Math", Cond.code Lib.Math.max.name Lib.Math.max.code 2 (some .int), Cond.methodLink RX2 84 yX2_passHour, Cond.instanceMethod yX2_passHour, Cond.selects RX2 yX2_passHour yX2_passHour, Cond.code yX2_passHour cX2_passHour 4 (some .int), Cond.methodLink RX2 52 yX2_verdict, Cond.instanceMethod yX2_verdict, Cond.selects RX2 yX2_verdict yX2_verdict, Cond.code yX2_verdict cX2_verdict 3 (some .int), Cond.methodLink RX2 39 yJ6_bitCount_0f7a4, Cond.static yJ6_bitCount_0f7a4, Cond.initialized RJ6, Cond.code yJ6_bitCount_0f7a4 cJ6_bitCount_0f7a4 1 (some .int), Cond.constant RJ6 265 (1431655765), Cond.constant RJ6 266 (858993459), Cond.constant RJ6 267 (252645135), Cond.methodLink RX2 45 yX2_carries, Cond.instanceMethod yX2_carries, Cond.selects RX2 yX2_carries yX2_carries, Cond.code yX2_carries cX2_carries 3 (some .boolean), Cond.fieldLink RX2 18 "HungryJury$Room" "panel" "LHungryJury$Panel;", Cond.fieldLink RX2 49 "HungryJury$Panel" "need" "I"]
def wsX5_argue_r4 : List Cond := [Cond.methodLink RX2 56 yX2_growHungry, Cond.instanceMethod yX2_growHungry, Cond.selects RX2 yX2_growHungry yX2_growHungry, Cond.code yX2_growHungry cX2_growHungry 2 none, Cond.fieldLink RX2 66 "HungryJury$Panel" "kind" "[I", Cond.methodLink RX2 72 Lib.Math.min.name, Cond.static Lib.Math.min.name, Cond.code Lib.Math.min.name Lib.Math.min.code 2 (some .int), Cond.methodLink RX2 69 yX2_hungerOfHour, Cond.instanceMethod yX2_hungerOfHour, Cond.selects RX2 yX2_hungerOfHour yX2_hungerOfHour, Cond.code yX2_hungerOfHour cX2_hungerOfHour 2 (some .int), Cond.methodLink RX2 63 yX2_mustGiveIn, Cond.instanceMethod yX2_mustGiveIn, Cond.selects RX2 yX2_mustGiveIn yX2_mustGiveIn, Cond.code yX2_mustGiveIn cX2_mustGiveIn 5 (some .boolean), Cond.fieldLink RX2 81 "HungryJury$Panel" "heeded" "[I", Cond.methodLink RX2 78 yX2_isYes, Cond.instanceMethod yX2_isYes, Cond.selects RX2 yX2_isYes yX2_isYes, Cond.code yX2_isYes cX2_isYes 2 (some .boolean)]
def wsX5_argue : List Cond := .code yX5_argue cX5_argue 3 (some .int) :: ((wsX5_argue_r1 ++ (wsX5_argue_r2 ++ (wsX5_argue_r3 ++ wsX5_argue_r4))) ++ wsX50 ++ wsX20 ++ wsX10 ++ wsX00)
def wsX5_feed_r1 : List Cond := [Cond.fieldLink RX5 31 "HungryJury" "now" "LHungryJury$Room;", Cond.fieldLink RX5 94 "HungryJury$Room" "hunger" "[I", Cond.methodLink RX5 81 yX5_isJuror, Cond.instanceMethod yX5_isJuror, Cond.selects RX5 yX5_isJuror yX5_isJuror, Cond.initialized RX5, Cond.code yX5_isJuror cX5_isJuror 2 (some .boolean), Cond.fieldLink RX5 19 "HungryJury" "panel" "LHungryJury$Panel;", Cond.fieldLink RX5 78 "HungryJury$Panel" "jurors" "I", Cond.methodLink RX5 117 yX5_doAct, Cond.instanceMethod yX5_doAct, Cond.selects RX5 yX5_doAct yX5_doAct, Cond.code yX5_doAct cX5_doAct 3 (some .int), Cond.fieldLink RX5 41 "HungryJury" "acts" "LHungryJury$Acts;", Cond.methodLink RX5 158 yX2_canDo, Cond.instanceMethod yX2_canDo, Cond.selects RX2 yX2_canDo yX2_canDo, Cond.initialized RX2, Cond.code yX2_canDo cX2_canDo 3 (some .boolean), Cond.fieldLink RX2 9 "HungryJury$Room" "stubborn" "[I", Cond.fieldLink RX2 15 "HungryJury$Room" "hunger" "[I", Cond.methodLink RX2 59 yX2_isThere, Cond.instanceMethod yX2_isThere, Cond.selects RX2 yX2_isThere yX2_isThere]
def wsX5_feed_r2 : List Cond := [Cond.code yX2_isThere cX2_isThere 2 (some .boolean), Cond.fieldLink RX2 32 "HungryJury$Room" "there" "I", Cond.methodLink RX5 103 yX0_remember, Cond.instanceMethod yX0_remember, Cond.selects RX0 yX0_remember yX0_remember, Cond.initialized RX0, Cond.code yX0_remember cX0_remember 2 none, Cond.fieldLink RX0 20 "HungryJury$Acts" "size" "I", Cond.fieldLink RX0 11 "HungryJury$Acts" "before" "[LHungryJury$Room;", Cond.methodLink RX0 24 yX0_forgetOldest, Cond.instanceMethod yX0_forgetOldest, Cond.selects RX0 yX0_forgetOldest yX0_forgetOldest, Cond.code yX0_forgetOldest cX0_forgetOldest 3 none, Cond.methodLink RX0 27 yX2_copyFrom, Cond.instanceMethod yX2_copyFrom, Cond.selects RX2 yX2_copyFrom yX2_copyFrom, Cond.code yX2_copyFrom cX2_copyFrom 3 none, Cond.fieldLink RX2 28 "HungryJury$Room" "yes" "I", Cond.fieldLink RX2 35 "HungryJury$Room" "theHour" "I", Cond.methodLink RX5 162 yX2_carryOut, Cond.instanceMethod yX2_carryOut, Cond.selects RX2 yX2_carryOut yX2_carryOut, Cond.code yX2_carryOut cX2_carryOut 3 none, Cond.methodLink RX2 87 Lib.Math.max.name]
def wsX5_feed_r3 : List Cond := [Cond.static Lib.Math.max.name, Cond.initialized "java/lang/Math", Cond.code Lib.Math.max.name Lib.Math.max.code 2 (some .int), Cond.methodLink RX2 84 yX2_passHour, Cond.instanceMethod yX2_passHour, Cond.selects RX2 yX2_passHour yX2_passHour, Cond.code yX2_passHour cX2_passHour 4 (some .int), Cond.methodLink RX2 52 yX2_verdict, Cond.instanceMethod yX2_verdict, Cond.selects RX2 yX2_verdict yX2_verdict, Cond.code yX2_verdict cX2_verdict 3 (some .int), Cond.methodLink RX2 39 yJ6_bitCount_0f7a4, Cond.static yJ6_bitCount_0f7a4, Cond.initialized RJ6, Cond.code yJ6_bitCount_0f7a4 cJ6_bitCount_0f7a4 1 (some .int), Cond.constant RJ6 265 (1431655765), Cond.constant RJ6 266 (858993459), Cond.constant RJ6 267 (252645135), Cond.methodLink RX2 45 yX2_carries, Cond.instanceMethod yX2_carries, Cond.selects RX2 yX2_carries yX2_carries, Cond.code yX2_carries cX2_carries 3 (some .boolean), Cond.fieldLink RX2 18 "HungryJury$Room" "panel" "LHungryJury$Panel;", Cond.fieldLink RX2 49 "HungryJury$Panel" "need" "I"]
def wsX5_feed_r4 : List Cond := [Cond.methodLink RX2 56 yX2_growHungry, Cond.instanceMethod yX2_growHungry, Cond.selects RX2 yX2_growHungry yX2_growHungry, Cond.code yX2_growHungry cX2_growHungry 2 none, Cond.fieldLink RX2 66 "HungryJury$Panel" "kind" "[I", Cond.methodLink RX2 72 Lib.Math.min.name, Cond.static Lib.Math.min.name, Cond.code Lib.Math.min.name Lib.Math.min.code 2 (some .int), Cond.methodLink RX2 69 yX2_hungerOfHour, Cond.instanceMethod yX2_hungerOfHour, Cond.selects RX2 yX2_hungerOfHour yX2_hungerOfHour, Cond.code yX2_hungerOfHour cX2_hungerOfHour 2 (some .int), Cond.methodLink RX2 63 yX2_mustGiveIn, Cond.instanceMethod yX2_mustGiveIn, Cond.selects RX2 yX2_mustGiveIn yX2_mustGiveIn, Cond.code yX2_mustGiveIn cX2_mustGiveIn 5 (some .boolean), Cond.fieldLink RX2 81 "HungryJury$Panel" "heeded" "[I", Cond.methodLink RX2 78 yX2_isYes, Cond.instanceMethod yX2_isYes, Cond.selects RX2 yX2_isYes yX2_isYes, Cond.code yX2_isYes cX2_isYes 2 (some .boolean)]
def wsX5_feed : List Cond := .code yX5_feed cX5_feed 4 (some .int) :: ((wsX5_feed_r1 ++ (wsX5_feed_r2 ++ (wsX5_feed_r3 ++ wsX5_feed_r4))) ++ wsX50 ++ wsX20 ++ wsX10 ++ wsX00)
def wsX5_die_r1 : List Cond := [Cond.fieldLink RX5 31 "HungryJury" "now" "LHungryJury$Room;", Cond.fieldLink RX5 121 "HungryJury$Room" "there" "I", Cond.methodLink RX5 117 yX5_doAct, Cond.instanceMethod yX5_doAct, Cond.selects RX5 yX5_doAct yX5_doAct, Cond.initialized RX5, Cond.code yX5_doAct cX5_doAct 3 (some .int), Cond.fieldLink RX5 41 "HungryJury" "acts" "LHungryJury$Acts;", Cond.methodLink RX5 81 yX5_isJuror, Cond.instanceMethod yX5_isJuror, Cond.selects RX5 yX5_isJuror yX5_isJuror, Cond.code yX5_isJuror cX5_isJuror 2 (some .boolean), Cond.fieldLink RX5 19 "HungryJury" "panel" "LHungryJury$Panel;", Cond.fieldLink RX5 78 "HungryJury$Panel" "jurors" "I", Cond.methodLink RX5 158 yX2_canDo, Cond.instanceMethod yX2_canDo, Cond.selects RX2 yX2_canDo yX2_canDo, Cond.initialized RX2, Cond.code yX2_canDo cX2_canDo 3 (some .boolean), Cond.fieldLink RX2 9 "HungryJury$Room" "stubborn" "[I", Cond.fieldLink RX2 15 "HungryJury$Room" "hunger" "[I", Cond.methodLink RX2 59 yX2_isThere, Cond.instanceMethod yX2_isThere, Cond.selects RX2 yX2_isThere yX2_isThere]
def wsX5_die_r2 : List Cond := [Cond.code yX2_isThere cX2_isThere 2 (some .boolean), Cond.fieldLink RX2 32 "HungryJury$Room" "there" "I", Cond.methodLink RX5 103 yX0_remember, Cond.instanceMethod yX0_remember, Cond.selects RX0 yX0_remember yX0_remember, Cond.initialized RX0, Cond.code yX0_remember cX0_remember 2 none, Cond.fieldLink RX0 20 "HungryJury$Acts" "size" "I", Cond.fieldLink RX0 11 "HungryJury$Acts" "before" "[LHungryJury$Room;", Cond.methodLink RX0 24 yX0_forgetOldest, Cond.instanceMethod yX0_forgetOldest, Cond.selects RX0 yX0_forgetOldest yX0_forgetOldest, Cond.code yX0_forgetOldest cX0_forgetOldest 3 none, Cond.methodLink RX0 27 yX2_copyFrom, Cond.instanceMethod yX2_copyFrom, Cond.selects RX2 yX2_copyFrom yX2_copyFrom, Cond.code yX2_copyFrom cX2_copyFrom 3 none, Cond.fieldLink RX2 28 "HungryJury$Room" "yes" "I", Cond.fieldLink RX2 35 "HungryJury$Room" "theHour" "I", Cond.methodLink RX5 162 yX2_carryOut, Cond.instanceMethod yX2_carryOut, Cond.selects RX2 yX2_carryOut yX2_carryOut, Cond.code yX2_carryOut cX2_carryOut 3 none, Cond.methodLink RX2 87 Lib.Math.max.name]
def wsX5_die_r3 : List Cond := [Cond.static Lib.Math.max.name, Cond.initialized "java/lang/Math", Cond.code Lib.Math.max.name Lib.Math.max.code 2 (some .int), Cond.methodLink RX2 84 yX2_passHour, Cond.instanceMethod yX2_passHour, Cond.selects RX2 yX2_passHour yX2_passHour, Cond.code yX2_passHour cX2_passHour 4 (some .int), Cond.methodLink RX2 52 yX2_verdict, Cond.instanceMethod yX2_verdict, Cond.selects RX2 yX2_verdict yX2_verdict, Cond.code yX2_verdict cX2_verdict 3 (some .int), Cond.methodLink RX2 39 yJ6_bitCount_0f7a4, Cond.static yJ6_bitCount_0f7a4, Cond.initialized RJ6, Cond.code yJ6_bitCount_0f7a4 cJ6_bitCount_0f7a4 1 (some .int), Cond.constant RJ6 265 (1431655765), Cond.constant RJ6 266 (858993459), Cond.constant RJ6 267 (252645135), Cond.methodLink RX2 45 yX2_carries, Cond.instanceMethod yX2_carries, Cond.selects RX2 yX2_carries yX2_carries, Cond.code yX2_carries cX2_carries 3 (some .boolean), Cond.fieldLink RX2 18 "HungryJury$Room" "panel" "LHungryJury$Panel;", Cond.fieldLink RX2 49 "HungryJury$Panel" "need" "I"]
def wsX5_die_r4 : List Cond := [Cond.methodLink RX2 56 yX2_growHungry, Cond.instanceMethod yX2_growHungry, Cond.selects RX2 yX2_growHungry yX2_growHungry, Cond.code yX2_growHungry cX2_growHungry 2 none, Cond.fieldLink RX2 66 "HungryJury$Panel" "kind" "[I", Cond.methodLink RX2 72 Lib.Math.min.name, Cond.static Lib.Math.min.name, Cond.code Lib.Math.min.name Lib.Math.min.code 2 (some .int), Cond.methodLink RX2 69 yX2_hungerOfHour, Cond.instanceMethod yX2_hungerOfHour, Cond.selects RX2 yX2_hungerOfHour yX2_hungerOfHour, Cond.code yX2_hungerOfHour cX2_hungerOfHour 2 (some .int), Cond.methodLink RX2 63 yX2_mustGiveIn, Cond.instanceMethod yX2_mustGiveIn, Cond.selects RX2 yX2_mustGiveIn yX2_mustGiveIn, Cond.code yX2_mustGiveIn cX2_mustGiveIn 5 (some .boolean), Cond.fieldLink RX2 81 "HungryJury$Panel" "heeded" "[I", Cond.methodLink RX2 78 yX2_isYes, Cond.instanceMethod yX2_isYes, Cond.selects RX2 yX2_isYes yX2_isYes, Cond.code yX2_isYes cX2_isYes 2 (some .boolean), Cond.methodLink RX5 111 yJ6_bitCount_0f7a4]
def wsX5_die : List Cond := .code yX5_die cX5_die 3 (some .int) :: ((wsX5_die_r1 ++ (wsX5_die_r2 ++ (wsX5_die_r3 ++ wsX5_die_r4))) ++ wsX50 ++ wsX20 ++ wsX10 ++ wsX00)
def wsX5_toss_r1 : List Cond := [Cond.fieldLink RX5 31 "HungryJury" "now" "LHungryJury$Room;", Cond.methodLink RX5 117 yX5_doAct, Cond.instanceMethod yX5_doAct, Cond.selects RX5 yX5_doAct yX5_doAct, Cond.initialized RX5, Cond.code yX5_doAct cX5_doAct 3 (some .int), Cond.fieldLink RX5 41 "HungryJury" "acts" "LHungryJury$Acts;", Cond.methodLink RX5 81 yX5_isJuror, Cond.instanceMethod yX5_isJuror, Cond.selects RX5 yX5_isJuror yX5_isJuror, Cond.code yX5_isJuror cX5_isJuror 2 (some .boolean), Cond.fieldLink RX5 19 "HungryJury" "panel" "LHungryJury$Panel;", Cond.fieldLink RX5 78 "HungryJury$Panel" "jurors" "I", Cond.methodLink RX5 158 yX2_canDo, Cond.instanceMethod yX2_canDo, Cond.selects RX2 yX2_canDo yX2_canDo, Cond.initialized RX2, Cond.code yX2_canDo cX2_canDo 3 (some .boolean), Cond.fieldLink RX2 9 "HungryJury$Room" "stubborn" "[I", Cond.fieldLink RX2 15 "HungryJury$Room" "hunger" "[I", Cond.methodLink RX2 59 yX2_isThere, Cond.instanceMethod yX2_isThere, Cond.selects RX2 yX2_isThere yX2_isThere, Cond.code yX2_isThere cX2_isThere 2 (some .boolean)]
def wsX5_toss_r2 : List Cond := [Cond.fieldLink RX2 32 "HungryJury$Room" "there" "I", Cond.methodLink RX5 103 yX0_remember, Cond.instanceMethod yX0_remember, Cond.selects RX0 yX0_remember yX0_remember, Cond.initialized RX0, Cond.code yX0_remember cX0_remember 2 none, Cond.fieldLink RX0 20 "HungryJury$Acts" "size" "I", Cond.fieldLink RX0 11 "HungryJury$Acts" "before" "[LHungryJury$Room;", Cond.methodLink RX0 24 yX0_forgetOldest, Cond.instanceMethod yX0_forgetOldest, Cond.selects RX0 yX0_forgetOldest yX0_forgetOldest, Cond.code yX0_forgetOldest cX0_forgetOldest 3 none, Cond.methodLink RX0 27 yX2_copyFrom, Cond.instanceMethod yX2_copyFrom, Cond.selects RX2 yX2_copyFrom yX2_copyFrom, Cond.code yX2_copyFrom cX2_copyFrom 3 none, Cond.fieldLink RX2 28 "HungryJury$Room" "yes" "I", Cond.fieldLink RX2 35 "HungryJury$Room" "theHour" "I", Cond.methodLink RX5 162 yX2_carryOut, Cond.instanceMethod yX2_carryOut, Cond.selects RX2 yX2_carryOut yX2_carryOut, Cond.code yX2_carryOut cX2_carryOut 3 none, Cond.methodLink RX2 87 Lib.Math.max.name, Cond.static Lib.Math.max.name]
def wsX5_toss_r3 : List Cond := [Cond.initialized "java/lang/Math", Cond.code Lib.Math.max.name Lib.Math.max.code 2 (some .int), Cond.methodLink RX2 84 yX2_passHour, Cond.instanceMethod yX2_passHour, Cond.selects RX2 yX2_passHour yX2_passHour, Cond.code yX2_passHour cX2_passHour 4 (some .int), Cond.methodLink RX2 52 yX2_verdict, Cond.instanceMethod yX2_verdict, Cond.selects RX2 yX2_verdict yX2_verdict, Cond.code yX2_verdict cX2_verdict 3 (some .int), Cond.methodLink RX2 39 yJ6_bitCount_0f7a4, Cond.static yJ6_bitCount_0f7a4, Cond.initialized RJ6, Cond.code yJ6_bitCount_0f7a4 cJ6_bitCount_0f7a4 1 (some .int), Cond.constant RJ6 265 (1431655765), Cond.constant RJ6 266 (858993459), Cond.constant RJ6 267 (252645135), Cond.methodLink RX2 45 yX2_carries, Cond.instanceMethod yX2_carries, Cond.selects RX2 yX2_carries yX2_carries, Cond.code yX2_carries cX2_carries 3 (some .boolean), Cond.fieldLink RX2 18 "HungryJury$Room" "panel" "LHungryJury$Panel;", Cond.fieldLink RX2 49 "HungryJury$Panel" "need" "I", Cond.methodLink RX2 56 yX2_growHungry]
def wsX5_toss_r4 : List Cond := [Cond.instanceMethod yX2_growHungry, Cond.selects RX2 yX2_growHungry yX2_growHungry, Cond.code yX2_growHungry cX2_growHungry 2 none, Cond.fieldLink RX2 66 "HungryJury$Panel" "kind" "[I", Cond.methodLink RX2 72 Lib.Math.min.name, Cond.static Lib.Math.min.name, Cond.code Lib.Math.min.name Lib.Math.min.code 2 (some .int), Cond.methodLink RX2 69 yX2_hungerOfHour, Cond.instanceMethod yX2_hungerOfHour, Cond.selects RX2 yX2_hungerOfHour yX2_hungerOfHour, Cond.code yX2_hungerOfHour cX2_hungerOfHour 2 (some .int), Cond.methodLink RX2 63 yX2_mustGiveIn, Cond.instanceMethod yX2_mustGiveIn, Cond.selects RX2 yX2_mustGiveIn yX2_mustGiveIn, Cond.code yX2_mustGiveIn cX2_mustGiveIn 5 (some .boolean), Cond.fieldLink RX2 81 "HungryJury$Panel" "heeded" "[I", Cond.methodLink RX2 78 yX2_isYes, Cond.instanceMethod yX2_isYes, Cond.selects RX2 yX2_isYes yX2_isYes, Cond.code yX2_isYes cX2_isYes 2 (some .boolean), Cond.methodLink RX5 84 yX2_isYes]
def wsX5_toss : List Cond := .code yX5_toss cX5_toss 3 (some .int) :: ((wsX5_toss_r1 ++ (wsX5_toss_r2 ++ (wsX5_toss_r3 ++ wsX5_toss_r4))) ++ wsX50 ++ wsX10 ++ wsX20 ++ wsX00)
def wsX5_undo : List Cond := .code yX5_undo cX5_undo 1 (some .int) :: ([.fieldLink RX5 41 "HungryJury" "acts" "LHungryJury$Acts;", .fieldLink RX5 31 "HungryJury" "now" "LHungryJury$Room;", .fieldLink RX5 128 "HungryJury$Acts" "size" "I", .methodLink RX5 124 yX0_takeBack, .instanceMethod yX0_takeBack, .selects RX0 yX0_takeBack yX0_takeBack, .initialized RX0, .code yX0_takeBack cX0_takeBack 2 (some .boolean), .fieldLink RX0 20 "HungryJury$Acts" "size" "I", .fieldLink RX0 11 "HungryJury$Acts" "before" "[LHungryJury$Room;", .methodLink RX0 27 yX2_copyFrom, .instanceMethod yX2_copyFrom, .selects RX2 yX2_copyFrom yX2_copyFrom, .initialized RX2, .code yX2_copyFrom cX2_copyFrom 3 none, .fieldLink RX2 28 "HungryJury$Room" "yes" "I", .fieldLink RX2 32 "HungryJury$Room" "there" "I", .fieldLink RX2 35 "HungryJury$Room" "theHour" "I", .fieldLink RX2 9 "HungryJury$Room" "stubborn" "[I", .fieldLink RX2 15 "HungryJury$Room" "hunger" "[I"] ++ wsX50 ++ wsX00 ++ wsX20)
def wsX5_ahead_r1 : List Cond := [Cond.fieldLink RX5 35 "HungryJury" "trial" "LHungryJury$Room;", Cond.fieldLink RX5 31 "HungryJury" "now" "LHungryJury$Room;", Cond.methodLink RX5 131 yX2_copyFrom, Cond.instanceMethod yX2_copyFrom, Cond.selects RX2 yX2_copyFrom yX2_copyFrom, Cond.initialized RX2, Cond.code yX2_copyFrom cX2_copyFrom 3 none, Cond.fieldLink RX2 28 "HungryJury$Room" "yes" "I", Cond.fieldLink RX2 32 "HungryJury$Room" "there" "I", Cond.fieldLink RX2 35 "HungryJury$Room" "theHour" "I", Cond.fieldLink RX2 9 "HungryJury$Room" "stubborn" "[I", Cond.fieldLink RX2 15 "HungryJury$Room" "hunger" "[I", Cond.methodLink RX5 107 yX2_passHour, Cond.instanceMethod yX2_passHour, Cond.selects RX2 yX2_passHour yX2_passHour, Cond.code yX2_passHour cX2_passHour 4 (some .int), Cond.methodLink RX2 52 yX2_verdict, Cond.instanceMethod yX2_verdict, Cond.selects RX2 yX2_verdict yX2_verdict, Cond.code yX2_verdict cX2_verdict 3 (some .int), Cond.methodLink RX2 39 yJ6_bitCount_0f7a4, Cond.static yJ6_bitCount_0f7a4, Cond.initialized RJ6, Cond.code yJ6_bitCount_0f7a4 cJ6_bitCount_0f7a4 1 (some .int)]
def wsX5_ahead_r2 : List Cond := [Cond.constant RJ6 265 (1431655765), Cond.constant RJ6 266 (858993459), Cond.constant RJ6 267 (252645135), Cond.methodLink RX2 45 yX2_carries, Cond.instanceMethod yX2_carries, Cond.selects RX2 yX2_carries yX2_carries, Cond.code yX2_carries cX2_carries 3 (some .boolean), Cond.fieldLink RX2 18 "HungryJury$Room" "panel" "LHungryJury$Panel;", Cond.fieldLink RX2 49 "HungryJury$Panel" "need" "I", Cond.methodLink RX2 56 yX2_growHungry, Cond.instanceMethod yX2_growHungry, Cond.selects RX2 yX2_growHungry yX2_growHungry, Cond.code yX2_growHungry cX2_growHungry 2 none, Cond.fieldLink RX2 66 "HungryJury$Panel" "kind" "[I", Cond.methodLink RX2 72 Lib.Math.min.name, Cond.static Lib.Math.min.name, Cond.initialized "java/lang/Math", Cond.code Lib.Math.min.name Lib.Math.min.code 2 (some .int), Cond.methodLink RX2 59 yX2_isThere, Cond.instanceMethod yX2_isThere, Cond.selects RX2 yX2_isThere yX2_isThere, Cond.code yX2_isThere cX2_isThere 2 (some .boolean), Cond.methodLink RX2 69 yX2_hungerOfHour, Cond.instanceMethod yX2_hungerOfHour]
def wsX5_ahead_r3 : List Cond := [Cond.selects RX2 yX2_hungerOfHour yX2_hungerOfHour, Cond.code yX2_hungerOfHour cX2_hungerOfHour 2 (some .int), Cond.methodLink RX2 63 yX2_mustGiveIn, Cond.instanceMethod yX2_mustGiveIn, Cond.selects RX2 yX2_mustGiveIn yX2_mustGiveIn, Cond.code yX2_mustGiveIn cX2_mustGiveIn 5 (some .boolean), Cond.fieldLink RX2 81 "HungryJury$Panel" "heeded" "[I", Cond.methodLink RX2 78 yX2_isYes, Cond.instanceMethod yX2_isYes, Cond.selects RX2 yX2_isYes yX2_isYes, Cond.code yX2_isYes cX2_isYes 2 (some .boolean), Cond.methodLink RX5 134 yX2_yesThere, Cond.instanceMethod yX2_yesThere, Cond.selects RX2 yX2_yesThere yX2_yesThere, Cond.code yX2_yesThere cX2_yesThere 1 (some .int)]
def wsX5_ahead : List Cond := .code yX5_ahead cX5_ahead 3 (some .int) :: ((wsX5_ahead_r1 ++ (wsX5_ahead_r2 ++ wsX5_ahead_r3)) ++ wsX50 ++ wsX20 ++ wsX10)
def wsX5_end_r1 : List Cond := [Cond.fieldLink RX5 35 "HungryJury" "trial" "LHungryJury$Room;", Cond.fieldLink RX5 31 "HungryJury" "now" "LHungryJury$Room;", Cond.methodLink RX5 131 yX2_copyFrom, Cond.instanceMethod yX2_copyFrom, Cond.selects RX2 yX2_copyFrom yX2_copyFrom, Cond.initialized RX2, Cond.code yX2_copyFrom cX2_copyFrom 3 none, Cond.fieldLink RX2 28 "HungryJury$Room" "yes" "I", Cond.fieldLink RX2 32 "HungryJury$Room" "there" "I", Cond.fieldLink RX2 35 "HungryJury$Room" "theHour" "I", Cond.fieldLink RX2 9 "HungryJury$Room" "stubborn" "[I", Cond.fieldLink RX2 15 "HungryJury$Room" "hunger" "[I", Cond.methodLink RX5 137 yX2_passHoursToEnd, Cond.instanceMethod yX2_passHoursToEnd, Cond.selects RX2 yX2_passHoursToEnd yX2_passHoursToEnd, Cond.code yX2_passHoursToEnd cX2_passHoursToEnd 2 (some .int), Cond.methodLink RX2 52 yX2_verdict, Cond.instanceMethod yX2_verdict, Cond.selects RX2 yX2_verdict yX2_verdict, Cond.code yX2_verdict cX2_verdict 3 (some .int), Cond.methodLink RX2 39 yJ6_bitCount_0f7a4, Cond.static yJ6_bitCount_0f7a4, Cond.initialized RJ6, Cond.code yJ6_bitCount_0f7a4 cJ6_bitCount_0f7a4 1 (some .int)]
def wsX5_end_r2 : List Cond := [Cond.constant RJ6 265 (1431655765), Cond.constant RJ6 266 (858993459), Cond.constant RJ6 267 (252645135), Cond.methodLink RX2 45 yX2_carries, Cond.instanceMethod yX2_carries, Cond.selects RX2 yX2_carries yX2_carries, Cond.code yX2_carries cX2_carries 3 (some .boolean), Cond.fieldLink RX2 18 "HungryJury$Room" "panel" "LHungryJury$Panel;", Cond.fieldLink RX2 49 "HungryJury$Panel" "need" "I", Cond.methodLink RX2 84 yX2_passHour, Cond.instanceMethod yX2_passHour, Cond.selects RX2 yX2_passHour yX2_passHour, Cond.code yX2_passHour cX2_passHour 4 (some .int), Cond.methodLink RX2 56 yX2_growHungry, Cond.instanceMethod yX2_growHungry, Cond.selects RX2 yX2_growHungry yX2_growHungry, Cond.code yX2_growHungry cX2_growHungry 2 none, Cond.fieldLink RX2 66 "HungryJury$Panel" "kind" "[I", Cond.methodLink RX2 72 Lib.Math.min.name, Cond.static Lib.Math.min.name, Cond.initialized "java/lang/Math", Cond.code Lib.Math.min.name Lib.Math.min.code 2 (some .int), Cond.methodLink RX2 59 yX2_isThere, Cond.instanceMethod yX2_isThere]
def wsX5_end_r3 : List Cond := [Cond.selects RX2 yX2_isThere yX2_isThere, Cond.code yX2_isThere cX2_isThere 2 (some .boolean), Cond.methodLink RX2 69 yX2_hungerOfHour, Cond.instanceMethod yX2_hungerOfHour, Cond.selects RX2 yX2_hungerOfHour yX2_hungerOfHour, Cond.code yX2_hungerOfHour cX2_hungerOfHour 2 (some .int), Cond.methodLink RX2 63 yX2_mustGiveIn, Cond.instanceMethod yX2_mustGiveIn, Cond.selects RX2 yX2_mustGiveIn yX2_mustGiveIn, Cond.code yX2_mustGiveIn cX2_mustGiveIn 5 (some .boolean), Cond.fieldLink RX2 81 "HungryJury$Panel" "heeded" "[I", Cond.methodLink RX2 78 yX2_isYes, Cond.instanceMethod yX2_isYes, Cond.selects RX2 yX2_isYes yX2_isYes, Cond.code yX2_isYes cX2_isYes 2 (some .boolean), Cond.methodLink RX5 140 yX2_verdict]
def wsX5_end : List Cond := .code yX5_end cX5_end 3 (some .int) :: ((wsX5_end_r1 ++ (wsX5_end_r2 ++ wsX5_end_r3)) ++ wsX50 ++ wsX20 ++ wsX10)
def wsX5_gives_r1 : List Cond := [Cond.fieldLink RX5 31 "HungryJury" "now" "LHungryJury$Room;", Cond.fieldLink RX5 35 "HungryJury" "trial" "LHungryJury$Room;", Cond.methodLink RX5 81 yX5_isJuror, Cond.instanceMethod yX5_isJuror, Cond.selects RX5 yX5_isJuror yX5_isJuror, Cond.initialized RX5, Cond.code yX5_isJuror cX5_isJuror 2 (some .boolean), Cond.fieldLink RX5 19 "HungryJury" "panel" "LHungryJury$Panel;", Cond.fieldLink RX5 78 "HungryJury$Panel" "jurors" "I", Cond.methodLink RX5 100 yX2_isThere, Cond.instanceMethod yX2_isThere, Cond.selects RX2 yX2_isThere yX2_isThere, Cond.initialized RX2, Cond.code yX2_isThere cX2_isThere 2 (some .boolean), Cond.fieldLink RX2 32 "HungryJury$Room" "there" "I", Cond.methodLink RX5 131 yX2_copyFrom, Cond.instanceMethod yX2_copyFrom, Cond.selects RX2 yX2_copyFrom yX2_copyFrom, Cond.code yX2_copyFrom cX2_copyFrom 3 none, Cond.fieldLink RX2 28 "HungryJury$Room" "yes" "I", Cond.fieldLink RX2 35 "HungryJury$Room" "theHour" "I", Cond.fieldLink RX2 9 "HungryJury$Room" "stubborn" "[I", Cond.fieldLink RX2 15 "HungryJury$Room" "hunger" "[I", Cond.methodLink RX5 107 yX2_passHour]
def wsX5_gives_r2 : List Cond := [Cond.instanceMethod yX2_passHour, Cond.selects RX2 yX2_passHour yX2_passHour, Cond.code yX2_passHour cX2_passHour 4 (some .int), Cond.methodLink RX2 52 yX2_verdict, Cond.instanceMethod yX2_verdict, Cond.selects RX2 yX2_verdict yX2_verdict, Cond.code yX2_verdict cX2_verdict 3 (some .int), Cond.methodLink RX2 39 yJ6_bitCount_0f7a4, Cond.static yJ6_bitCount_0f7a4, Cond.initialized RJ6, Cond.code yJ6_bitCount_0f7a4 cJ6_bitCount_0f7a4 1 (some .int), Cond.constant RJ6 265 (1431655765), Cond.constant RJ6 266 (858993459), Cond.constant RJ6 267 (252645135), Cond.methodLink RX2 45 yX2_carries, Cond.instanceMethod yX2_carries, Cond.selects RX2 yX2_carries yX2_carries, Cond.code yX2_carries cX2_carries 3 (some .boolean), Cond.fieldLink RX2 18 "HungryJury$Room" "panel" "LHungryJury$Panel;", Cond.fieldLink RX2 49 "HungryJury$Panel" "need" "I", Cond.methodLink RX2 56 yX2_growHungry, Cond.instanceMethod yX2_growHungry, Cond.selects RX2 yX2_growHungry yX2_growHungry, Cond.code yX2_growHungry cX2_growHungry 2 none]
def wsX5_gives_r3 : List Cond := [Cond.fieldLink RX2 66 "HungryJury$Panel" "kind" "[I", Cond.methodLink RX2 72 Lib.Math.min.name, Cond.static Lib.Math.min.name, Cond.initialized "java/lang/Math", Cond.code Lib.Math.min.name Lib.Math.min.code 2 (some .int), Cond.methodLink RX2 59 yX2_isThere, Cond.methodLink RX2 69 yX2_hungerOfHour, Cond.instanceMethod yX2_hungerOfHour, Cond.selects RX2 yX2_hungerOfHour yX2_hungerOfHour, Cond.code yX2_hungerOfHour cX2_hungerOfHour 2 (some .int), Cond.methodLink RX2 63 yX2_mustGiveIn, Cond.instanceMethod yX2_mustGiveIn, Cond.selects RX2 yX2_mustGiveIn yX2_mustGiveIn, Cond.code yX2_mustGiveIn cX2_mustGiveIn 5 (some .boolean), Cond.fieldLink RX2 81 "HungryJury$Panel" "heeded" "[I", Cond.methodLink RX2 78 yX2_isYes, Cond.instanceMethod yX2_isYes, Cond.selects RX2 yX2_isYes yX2_isYes, Cond.code yX2_isYes cX2_isYes 2 (some .boolean)]
def wsX5_gives : List Cond := .code yX5_gives cX5_gives 3 (some .int) :: ((wsX5_gives_r1 ++ (wsX5_gives_r2 ++ wsX5_gives_r3)) ++ wsX50 ++ wsX10 ++ wsX20)
def wsX5_isSide : List Cond := .code yX5_isSide cX5_isSide 1 (some .boolean) :: ([])
def wsX5_endAfter_r1 : List Cond := [Cond.fieldLink RX5 35 "HungryJury" "trial" "LHungryJury$Room;", Cond.fieldLink RX5 31 "HungryJury" "now" "LHungryJury$Room;", Cond.methodLink RX5 131 yX2_copyFrom, Cond.instanceMethod yX2_copyFrom, Cond.selects RX2 yX2_copyFrom yX2_copyFrom, Cond.initialized RX2, Cond.code yX2_copyFrom cX2_copyFrom 3 none, Cond.fieldLink RX2 28 "HungryJury$Room" "yes" "I", Cond.fieldLink RX2 32 "HungryJury$Room" "there" "I", Cond.fieldLink RX2 35 "HungryJury$Room" "theHour" "I", Cond.fieldLink RX2 9 "HungryJury$Room" "stubborn" "[I", Cond.fieldLink RX2 15 "HungryJury$Room" "hunger" "[I", Cond.methodLink RX5 162 yX2_carryOut, Cond.instanceMethod yX2_carryOut, Cond.selects RX2 yX2_carryOut yX2_carryOut, Cond.code yX2_carryOut cX2_carryOut 3 none, Cond.methodLink RX2 87 Lib.Math.max.name, Cond.static Lib.Math.max.name, Cond.initialized "java/lang/Math", Cond.code Lib.Math.max.name Lib.Math.max.code 2 (some .int), Cond.methodLink RX2 84 yX2_passHour, Cond.instanceMethod yX2_passHour, Cond.selects RX2 yX2_passHour yX2_passHour, Cond.code yX2_passHour cX2_passHour 4 (some .int)]
def wsX5_endAfter_r2 : List Cond := [Cond.methodLink RX2 52 yX2_verdict, Cond.instanceMethod yX2_verdict, Cond.selects RX2 yX2_verdict yX2_verdict, Cond.code yX2_verdict cX2_verdict 3 (some .int), Cond.methodLink RX2 39 yJ6_bitCount_0f7a4, Cond.static yJ6_bitCount_0f7a4, Cond.initialized RJ6, Cond.code yJ6_bitCount_0f7a4 cJ6_bitCount_0f7a4 1 (some .int), Cond.constant RJ6 265 (1431655765), Cond.constant RJ6 266 (858993459), Cond.constant RJ6 267 (252645135), Cond.methodLink RX2 45 yX2_carries, Cond.instanceMethod yX2_carries, Cond.selects RX2 yX2_carries yX2_carries, Cond.code yX2_carries cX2_carries 3 (some .boolean), Cond.fieldLink RX2 18 "HungryJury$Room" "panel" "LHungryJury$Panel;", Cond.fieldLink RX2 49 "HungryJury$Panel" "need" "I", Cond.methodLink RX2 56 yX2_growHungry, Cond.instanceMethod yX2_growHungry, Cond.selects RX2 yX2_growHungry yX2_growHungry, Cond.code yX2_growHungry cX2_growHungry 2 none, Cond.fieldLink RX2 66 "HungryJury$Panel" "kind" "[I", Cond.methodLink RX2 72 Lib.Math.min.name, Cond.static Lib.Math.min.name]
def wsX5_endAfter_r3 : List Cond := [Cond.code Lib.Math.min.name Lib.Math.min.code 2 (some .int), Cond.methodLink RX2 59 yX2_isThere, Cond.instanceMethod yX2_isThere, Cond.selects RX2 yX2_isThere yX2_isThere, Cond.code yX2_isThere cX2_isThere 2 (some .boolean), Cond.methodLink RX2 69 yX2_hungerOfHour, Cond.instanceMethod yX2_hungerOfHour, Cond.selects RX2 yX2_hungerOfHour yX2_hungerOfHour, Cond.code yX2_hungerOfHour cX2_hungerOfHour 2 (some .int), Cond.methodLink RX2 63 yX2_mustGiveIn, Cond.instanceMethod yX2_mustGiveIn, Cond.selects RX2 yX2_mustGiveIn yX2_mustGiveIn, Cond.code yX2_mustGiveIn cX2_mustGiveIn 5 (some .boolean), Cond.fieldLink RX2 81 "HungryJury$Panel" "heeded" "[I", Cond.methodLink RX2 78 yX2_isYes, Cond.instanceMethod yX2_isYes, Cond.selects RX2 yX2_isYes yX2_isYes, Cond.code yX2_isYes cX2_isYes 2 (some .boolean), Cond.methodLink RX5 137 yX2_passHoursToEnd, Cond.instanceMethod yX2_passHoursToEnd, Cond.selects RX2 yX2_passHoursToEnd yX2_passHoursToEnd, Cond.code yX2_passHoursToEnd cX2_passHoursToEnd 2 (some .int), Cond.methodLink RX5 140 yX2_verdict]
def wsX5_endAfter : List Cond := .code yX5_endAfter cX5_endAfter 4 (some .int) :: ((wsX5_endAfter_r1 ++ (wsX5_endAfter_r2 ++ wsX5_endAfter_r3)) ++ wsX50 ++ wsX20 ++ wsX10)
def wsX5_fewestFor_r1 : List Cond := [Cond.fieldLink RX5 31 "HungryJury" "now" "LHungryJury$Room;", Cond.fieldLink RX5 121 "HungryJury$Room" "there" "I", Cond.methodLink RX5 111 yJ6_bitCount_0f7a4, Cond.static yJ6_bitCount_0f7a4, Cond.initialized RJ6, Cond.code yJ6_bitCount_0f7a4 cJ6_bitCount_0f7a4 1 (some .int), Cond.constant RJ6 265 (1431655765), Cond.constant RJ6 266 (858993459), Cond.constant RJ6 267 (252645135), Cond.methodLink RX5 193 yX5_endAfter, Cond.instanceMethod yX5_endAfter, Cond.selects RX5 yX5_endAfter yX5_endAfter, Cond.initialized RX5, Cond.code yX5_endAfter cX5_endAfter 4 (some .int), Cond.fieldLink RX5 35 "HungryJury" "trial" "LHungryJury$Room;", Cond.methodLink RX5 131 yX2_copyFrom, Cond.instanceMethod yX2_copyFrom, Cond.selects RX2 yX2_copyFrom yX2_copyFrom, Cond.initialized RX2, Cond.code yX2_copyFrom cX2_copyFrom 3 none, Cond.fieldLink RX2 28 "HungryJury$Room" "yes" "I", Cond.fieldLink RX2 32 "HungryJury$Room" "there" "I", Cond.fieldLink RX2 35 "HungryJury$Room" "theHour" "I", Cond.fieldLink RX2 9 "HungryJury$Room" "stubborn" "[I"]
def wsX5_fewestFor_r2 : List Cond := [Cond.fieldLink RX2 15 "HungryJury$Room" "hunger" "[I", Cond.methodLink RX5 162 yX2_carryOut, Cond.instanceMethod yX2_carryOut, Cond.selects RX2 yX2_carryOut yX2_carryOut, Cond.code yX2_carryOut cX2_carryOut 3 none, Cond.methodLink RX2 87 Lib.Math.max.name, Cond.static Lib.Math.max.name, Cond.initialized "java/lang/Math", Cond.code Lib.Math.max.name Lib.Math.max.code 2 (some .int), Cond.methodLink RX2 84 yX2_passHour, Cond.instanceMethod yX2_passHour, Cond.selects RX2 yX2_passHour yX2_passHour, Cond.code yX2_passHour cX2_passHour 4 (some .int), Cond.methodLink RX2 52 yX2_verdict, Cond.instanceMethod yX2_verdict, Cond.selects RX2 yX2_verdict yX2_verdict, Cond.code yX2_verdict cX2_verdict 3 (some .int), Cond.methodLink RX2 39 yJ6_bitCount_0f7a4, Cond.methodLink RX2 45 yX2_carries, Cond.instanceMethod yX2_carries, Cond.selects RX2 yX2_carries yX2_carries, Cond.code yX2_carries cX2_carries 3 (some .boolean), Cond.fieldLink RX2 18 "HungryJury$Room" "panel" "LHungryJury$Panel;", Cond.fieldLink RX2 49 "HungryJury$Panel" "need" "I"]
def wsX5_fewestFor_r3 : List Cond := [Cond.methodLink RX2 56 yX2_growHungry, Cond.instanceMethod yX2_growHungry, Cond.selects RX2 yX2_growHungry yX2_growHungry, Cond.code yX2_growHungry cX2_growHungry 2 none, Cond.fieldLink RX2 66 "HungryJury$Panel" "kind" "[I", Cond.methodLink RX2 72 Lib.Math.min.name, Cond.static Lib.Math.min.name, Cond.code Lib.Math.min.name Lib.Math.min.code 2 (some .int), Cond.methodLink RX2 59 yX2_isThere, Cond.instanceMethod yX2_isThere, Cond.selects RX2 yX2_isThere yX2_isThere, Cond.code yX2_isThere cX2_isThere 2 (some .boolean), Cond.methodLink RX2 69 yX2_hungerOfHour, Cond.instanceMethod yX2_hungerOfHour, Cond.selects RX2 yX2_hungerOfHour yX2_hungerOfHour, Cond.code yX2_hungerOfHour cX2_hungerOfHour 2 (some .int), Cond.methodLink RX2 63 yX2_mustGiveIn, Cond.instanceMethod yX2_mustGiveIn, Cond.selects RX2 yX2_mustGiveIn yX2_mustGiveIn, Cond.code yX2_mustGiveIn cX2_mustGiveIn 5 (some .boolean), Cond.fieldLink RX2 81 "HungryJury$Panel" "heeded" "[I", Cond.methodLink RX2 78 yX2_isYes, Cond.instanceMethod yX2_isYes, Cond.selects RX2 yX2_isYes yX2_isYes]
def wsX5_fewestFor_r4 : List Cond := [Cond.code yX2_isYes cX2_isYes 2 (some .boolean), Cond.methodLink RX5 137 yX2_passHoursToEnd, Cond.instanceMethod yX2_passHoursToEnd, Cond.selects RX2 yX2_passHoursToEnd yX2_passHoursToEnd, Cond.code yX2_passHoursToEnd cX2_passHoursToEnd 2 (some .int), Cond.methodLink RX5 140 yX2_verdict]
def wsX5_fewestFor : List Cond := .code yX5_fewestFor cX5_fewestFor 8 (some .int) :: ((wsX5_fewestFor_r1 ++ (wsX5_fewestFor_r2 ++ (wsX5_fewestFor_r3 ++ wsX5_fewestFor_r4))) ++ wsX50 ++ wsX20 ++ wsX10)
def wsX5_toFeed_r1 : List Cond := [Cond.methodLink RX5 143 yX5_isSide, Cond.static yX5_isSide, Cond.initialized RX5, Cond.code yX5_isSide cX5_isSide 1 (some .boolean), Cond.methodLink RX5 146 yX5_fewestFor, Cond.instanceMethod yX5_fewestFor, Cond.selects RX5 yX5_fewestFor yX5_fewestFor, Cond.code yX5_fewestFor cX5_fewestFor 8 (some .int), Cond.fieldLink RX5 31 "HungryJury" "now" "LHungryJury$Room;", Cond.fieldLink RX5 121 "HungryJury$Room" "there" "I", Cond.methodLink RX5 111 yJ6_bitCount_0f7a4, Cond.static yJ6_bitCount_0f7a4, Cond.initialized RJ6, Cond.code yJ6_bitCount_0f7a4 cJ6_bitCount_0f7a4 1 (some .int), Cond.constant RJ6 265 (1431655765), Cond.constant RJ6 266 (858993459), Cond.constant RJ6 267 (252645135), Cond.methodLink RX5 193 yX5_endAfter, Cond.instanceMethod yX5_endAfter, Cond.selects RX5 yX5_endAfter yX5_endAfter, Cond.code yX5_endAfter cX5_endAfter 4 (some .int), Cond.fieldLink RX5 35 "HungryJury" "trial" "LHungryJury$Room;", Cond.methodLink RX5 131 yX2_copyFrom, Cond.instanceMethod yX2_copyFrom]
def wsX5_toFeed_r2 : List Cond := [Cond.selects RX2 yX2_copyFrom yX2_copyFrom, Cond.initialized RX2, Cond.code yX2_copyFrom cX2_copyFrom 3 none, Cond.fieldLink RX2 28 "HungryJury$Room" "yes" "I", Cond.fieldLink RX2 32 "HungryJury$Room" "there" "I", Cond.fieldLink RX2 35 "HungryJury$Room" "theHour" "I", Cond.fieldLink RX2 9 "HungryJury$Room" "stubborn" "[I", Cond.fieldLink RX2 15 "HungryJury$Room" "hunger" "[I", Cond.methodLink RX5 162 yX2_carryOut, Cond.instanceMethod yX2_carryOut, Cond.selects RX2 yX2_carryOut yX2_carryOut, Cond.code yX2_carryOut cX2_carryOut 3 none, Cond.methodLink RX2 87 Lib.Math.max.name, Cond.static Lib.Math.max.name, Cond.initialized "java/lang/Math", Cond.code Lib.Math.max.name Lib.Math.max.code 2 (some .int), Cond.methodLink RX2 84 yX2_passHour, Cond.instanceMethod yX2_passHour, Cond.selects RX2 yX2_passHour yX2_passHour, Cond.code yX2_passHour cX2_passHour 4 (some .int), Cond.methodLink RX2 52 yX2_verdict, Cond.instanceMethod yX2_verdict, Cond.selects RX2 yX2_verdict yX2_verdict, Cond.code yX2_verdict cX2_verdict 3 (some .int)]
def wsX5_toFeed_r3 : List Cond := [Cond.methodLink RX2 39 yJ6_bitCount_0f7a4, Cond.methodLink RX2 45 yX2_carries, Cond.instanceMethod yX2_carries, Cond.selects RX2 yX2_carries yX2_carries, Cond.code yX2_carries cX2_carries 3 (some .boolean), Cond.fieldLink RX2 18 "HungryJury$Room" "panel" "LHungryJury$Panel;", Cond.fieldLink RX2 49 "HungryJury$Panel" "need" "I", Cond.methodLink RX2 56 yX2_growHungry, Cond.instanceMethod yX2_growHungry, Cond.selects RX2 yX2_growHungry yX2_growHungry, Cond.code yX2_growHungry cX2_growHungry 2 none, Cond.fieldLink RX2 66 "HungryJury$Panel" "kind" "[I", Cond.methodLink RX2 72 Lib.Math.min.name, Cond.static Lib.Math.min.name, Cond.code Lib.Math.min.name Lib.Math.min.code 2 (some .int), Cond.methodLink RX2 59 yX2_isThere, Cond.instanceMethod yX2_isThere, Cond.selects RX2 yX2_isThere yX2_isThere, Cond.code yX2_isThere cX2_isThere 2 (some .boolean), Cond.methodLink RX2 69 yX2_hungerOfHour, Cond.instanceMethod yX2_hungerOfHour, Cond.selects RX2 yX2_hungerOfHour yX2_hungerOfHour, Cond.code yX2_hungerOfHour cX2_hungerOfHour 2 (some .int), Cond.methodLink RX2 63 yX2_mustGiveIn]
def wsX5_toFeed_r4 : List Cond := [Cond.instanceMethod yX2_mustGiveIn, Cond.selects RX2 yX2_mustGiveIn yX2_mustGiveIn, Cond.code yX2_mustGiveIn cX2_mustGiveIn 5 (some .boolean), Cond.fieldLink RX2 81 "HungryJury$Panel" "heeded" "[I", Cond.methodLink RX2 78 yX2_isYes, Cond.instanceMethod yX2_isYes, Cond.selects RX2 yX2_isYes yX2_isYes, Cond.code yX2_isYes cX2_isYes 2 (some .boolean), Cond.methodLink RX5 137 yX2_passHoursToEnd, Cond.instanceMethod yX2_passHoursToEnd, Cond.selects RX2 yX2_passHoursToEnd yX2_passHoursToEnd, Cond.code yX2_passHoursToEnd cX2_passHoursToEnd 2 (some .int), Cond.methodLink RX5 140 yX2_verdict]
def wsX5_toFeed : List Cond := .code yX5_toFeed cX5_toFeed 2 (some .int) :: ((wsX5_toFeed_r1 ++ (wsX5_toFeed_r2 ++ (wsX5_toFeed_r3 ++ wsX5_toFeed_r4))) ++ wsX50 ++ wsX20 ++ wsX10)
def wsX5_strike_r1 : List Cond := [Cond.methodLink RX5 143 yX5_isSide, Cond.static yX5_isSide, Cond.initialized RX5, Cond.code yX5_isSide cX5_isSide 1 (some .boolean), Cond.methodLink RX5 146 yX5_fewestFor, Cond.instanceMethod yX5_fewestFor, Cond.selects RX5 yX5_fewestFor yX5_fewestFor, Cond.code yX5_fewestFor cX5_fewestFor 8 (some .int), Cond.fieldLink RX5 31 "HungryJury" "now" "LHungryJury$Room;", Cond.fieldLink RX5 121 "HungryJury$Room" "there" "I", Cond.methodLink RX5 111 yJ6_bitCount_0f7a4, Cond.static yJ6_bitCount_0f7a4, Cond.initialized RJ6, Cond.code yJ6_bitCount_0f7a4 cJ6_bitCount_0f7a4 1 (some .int), Cond.constant RJ6 265 (1431655765), Cond.constant RJ6 266 (858993459), Cond.constant RJ6 267 (252645135), Cond.methodLink RX5 193 yX5_endAfter, Cond.instanceMethod yX5_endAfter, Cond.selects RX5 yX5_endAfter yX5_endAfter, Cond.code yX5_endAfter cX5_endAfter 4 (some .int), Cond.fieldLink RX5 35 "HungryJury" "trial" "LHungryJury$Room;", Cond.methodLink RX5 131 yX2_copyFrom, Cond.instanceMethod yX2_copyFrom]
def wsX5_strike_r2 : List Cond := [Cond.selects RX2 yX2_copyFrom yX2_copyFrom, Cond.initialized RX2, Cond.code yX2_copyFrom cX2_copyFrom 3 none, Cond.fieldLink RX2 28 "HungryJury$Room" "yes" "I", Cond.fieldLink RX2 32 "HungryJury$Room" "there" "I", Cond.fieldLink RX2 35 "HungryJury$Room" "theHour" "I", Cond.fieldLink RX2 9 "HungryJury$Room" "stubborn" "[I", Cond.fieldLink RX2 15 "HungryJury$Room" "hunger" "[I", Cond.methodLink RX5 162 yX2_carryOut, Cond.instanceMethod yX2_carryOut, Cond.selects RX2 yX2_carryOut yX2_carryOut, Cond.code yX2_carryOut cX2_carryOut 3 none, Cond.methodLink RX2 87 Lib.Math.max.name, Cond.static Lib.Math.max.name, Cond.initialized "java/lang/Math", Cond.code Lib.Math.max.name Lib.Math.max.code 2 (some .int), Cond.methodLink RX2 84 yX2_passHour, Cond.instanceMethod yX2_passHour, Cond.selects RX2 yX2_passHour yX2_passHour, Cond.code yX2_passHour cX2_passHour 4 (some .int), Cond.methodLink RX2 52 yX2_verdict, Cond.instanceMethod yX2_verdict, Cond.selects RX2 yX2_verdict yX2_verdict, Cond.code yX2_verdict cX2_verdict 3 (some .int)]
def wsX5_strike_r3 : List Cond := [Cond.methodLink RX2 39 yJ6_bitCount_0f7a4, Cond.methodLink RX2 45 yX2_carries, Cond.instanceMethod yX2_carries, Cond.selects RX2 yX2_carries yX2_carries, Cond.code yX2_carries cX2_carries 3 (some .boolean), Cond.fieldLink RX2 18 "HungryJury$Room" "panel" "LHungryJury$Panel;", Cond.fieldLink RX2 49 "HungryJury$Panel" "need" "I", Cond.methodLink RX2 56 yX2_growHungry, Cond.instanceMethod yX2_growHungry, Cond.selects RX2 yX2_growHungry yX2_growHungry, Cond.code yX2_growHungry cX2_growHungry 2 none, Cond.fieldLink RX2 66 "HungryJury$Panel" "kind" "[I", Cond.methodLink RX2 72 Lib.Math.min.name, Cond.static Lib.Math.min.name, Cond.code Lib.Math.min.name Lib.Math.min.code 2 (some .int), Cond.methodLink RX2 59 yX2_isThere, Cond.instanceMethod yX2_isThere, Cond.selects RX2 yX2_isThere yX2_isThere, Cond.code yX2_isThere cX2_isThere 2 (some .boolean), Cond.methodLink RX2 69 yX2_hungerOfHour, Cond.instanceMethod yX2_hungerOfHour, Cond.selects RX2 yX2_hungerOfHour yX2_hungerOfHour, Cond.code yX2_hungerOfHour cX2_hungerOfHour 2 (some .int), Cond.methodLink RX2 63 yX2_mustGiveIn]
def wsX5_strike_r4 : List Cond := [Cond.instanceMethod yX2_mustGiveIn, Cond.selects RX2 yX2_mustGiveIn yX2_mustGiveIn, Cond.code yX2_mustGiveIn cX2_mustGiveIn 5 (some .boolean), Cond.fieldLink RX2 81 "HungryJury$Panel" "heeded" "[I", Cond.methodLink RX2 78 yX2_isYes, Cond.instanceMethod yX2_isYes, Cond.selects RX2 yX2_isYes yX2_isYes, Cond.code yX2_isYes cX2_isYes 2 (some .boolean), Cond.methodLink RX5 137 yX2_passHoursToEnd, Cond.instanceMethod yX2_passHoursToEnd, Cond.selects RX2 yX2_passHoursToEnd yX2_passHoursToEnd, Cond.code yX2_passHoursToEnd cX2_passHoursToEnd 2 (some .int), Cond.methodLink RX5 140 yX2_verdict]
def wsX5_strike : List Cond := .code yX5_strike cX5_strike 2 (some .int) :: ((wsX5_strike_r1 ++ (wsX5_strike_r2 ++ (wsX5_strike_r3 ++ wsX5_strike_r4))) ++ wsX50 ++ wsX20 ++ wsX10)
def wsX5_isMove : List Cond := .code yX5_isMove cX5_isMove 5 (some .boolean) :: ([.fieldLink RX5 31 "HungryJury" "now" "LHungryJury$Room;", .methodLink RX5 100 yX2_isThere, .instanceMethod yX2_isThere, .selects RX2 yX2_isThere yX2_isThere, .initialized RX2, .code yX2_isThere cX2_isThere 2 (some .boolean), .fieldLink RX2 32 "HungryJury$Room" "there" "I"] ++ wsX50 ++ wsX20)
def wsX5_endAfterMove_r1 : List Cond := [Cond.fieldLink RX5 35 "HungryJury" "trial" "LHungryJury$Room;", Cond.fieldLink RX5 31 "HungryJury" "now" "LHungryJury$Room;", Cond.methodLink RX5 131 yX2_copyFrom, Cond.instanceMethod yX2_copyFrom, Cond.selects RX2 yX2_copyFrom yX2_copyFrom, Cond.initialized RX2, Cond.code yX2_copyFrom cX2_copyFrom 3 none, Cond.fieldLink RX2 28 "HungryJury$Room" "yes" "I", Cond.fieldLink RX2 32 "HungryJury$Room" "there" "I", Cond.fieldLink RX2 35 "HungryJury$Room" "theHour" "I", Cond.fieldLink RX2 9 "HungryJury$Room" "stubborn" "[I", Cond.fieldLink RX2 15 "HungryJury$Room" "hunger" "[I", Cond.methodLink RX5 162 yX2_carryOut, Cond.instanceMethod yX2_carryOut, Cond.selects RX2 yX2_carryOut yX2_carryOut, Cond.code yX2_carryOut cX2_carryOut 3 none, Cond.methodLink RX2 87 Lib.Math.max.name, Cond.static Lib.Math.max.name, Cond.initialized "java/lang/Math", Cond.code Lib.Math.max.name Lib.Math.max.code 2 (some .int), Cond.methodLink RX2 84 yX2_passHour, Cond.instanceMethod yX2_passHour, Cond.selects RX2 yX2_passHour yX2_passHour, Cond.code yX2_passHour cX2_passHour 4 (some .int)]
def wsX5_endAfterMove_r2 : List Cond := [Cond.methodLink RX2 52 yX2_verdict, Cond.instanceMethod yX2_verdict, Cond.selects RX2 yX2_verdict yX2_verdict, Cond.code yX2_verdict cX2_verdict 3 (some .int), Cond.methodLink RX2 39 yJ6_bitCount_0f7a4, Cond.static yJ6_bitCount_0f7a4, Cond.initialized RJ6, Cond.code yJ6_bitCount_0f7a4 cJ6_bitCount_0f7a4 1 (some .int), Cond.constant RJ6 265 (1431655765), Cond.constant RJ6 266 (858993459), Cond.constant RJ6 267 (252645135), Cond.methodLink RX2 45 yX2_carries, Cond.instanceMethod yX2_carries, Cond.selects RX2 yX2_carries yX2_carries, Cond.code yX2_carries cX2_carries 3 (some .boolean), Cond.fieldLink RX2 18 "HungryJury$Room" "panel" "LHungryJury$Panel;", Cond.fieldLink RX2 49 "HungryJury$Panel" "need" "I", Cond.methodLink RX2 56 yX2_growHungry, Cond.instanceMethod yX2_growHungry, Cond.selects RX2 yX2_growHungry yX2_growHungry, Cond.code yX2_growHungry cX2_growHungry 2 none, Cond.fieldLink RX2 66 "HungryJury$Panel" "kind" "[I", Cond.methodLink RX2 72 Lib.Math.min.name, Cond.static Lib.Math.min.name]
def wsX5_endAfterMove_r3 : List Cond := [Cond.code Lib.Math.min.name Lib.Math.min.code 2 (some .int), Cond.methodLink RX2 59 yX2_isThere, Cond.instanceMethod yX2_isThere, Cond.selects RX2 yX2_isThere yX2_isThere, Cond.code yX2_isThere cX2_isThere 2 (some .boolean), Cond.methodLink RX2 69 yX2_hungerOfHour, Cond.instanceMethod yX2_hungerOfHour, Cond.selects RX2 yX2_hungerOfHour yX2_hungerOfHour, Cond.code yX2_hungerOfHour cX2_hungerOfHour 2 (some .int), Cond.methodLink RX2 63 yX2_mustGiveIn, Cond.instanceMethod yX2_mustGiveIn, Cond.selects RX2 yX2_mustGiveIn yX2_mustGiveIn, Cond.code yX2_mustGiveIn cX2_mustGiveIn 5 (some .boolean), Cond.fieldLink RX2 81 "HungryJury$Panel" "heeded" "[I", Cond.methodLink RX2 78 yX2_isYes, Cond.instanceMethod yX2_isYes, Cond.selects RX2 yX2_isYes yX2_isYes, Cond.code yX2_isYes cX2_isYes 2 (some .boolean), Cond.methodLink RX5 137 yX2_passHoursToEnd, Cond.instanceMethod yX2_passHoursToEnd, Cond.selects RX2 yX2_passHoursToEnd yX2_passHoursToEnd, Cond.code yX2_passHoursToEnd cX2_passHoursToEnd 2 (some .int), Cond.methodLink RX5 140 yX2_verdict]
def wsX5_endAfterMove : List Cond := .code yX5_endAfterMove cX5_endAfterMove 3 (some .int) :: ((wsX5_endAfterMove_r1 ++ (wsX5_endAfterMove_r2 ++ wsX5_endAfterMove_r3)) ++ wsX50 ++ wsX20 ++ wsX10)
def wsX5_leastMoveFor_r1 : List Cond := [Cond.methodLink RX5 212 yX5_isMove, Cond.instanceMethod yX5_isMove, Cond.selects RX5 yX5_isMove yX5_isMove, Cond.initialized RX5, Cond.code yX5_isMove cX5_isMove 5 (some .boolean), Cond.fieldLink RX5 31 "HungryJury" "now" "LHungryJury$Room;", Cond.methodLink RX5 100 yX2_isThere, Cond.instanceMethod yX2_isThere, Cond.selects RX2 yX2_isThere yX2_isThere, Cond.initialized RX2, Cond.code yX2_isThere cX2_isThere 2 (some .boolean), Cond.fieldLink RX2 32 "HungryJury$Room" "there" "I", Cond.methodLink RX5 215 yX5_endAfterMove, Cond.instanceMethod yX5_endAfterMove, Cond.selects RX5 yX5_endAfterMove yX5_endAfterMove, Cond.code yX5_endAfterMove cX5_endAfterMove 3 (some .int), Cond.fieldLink RX5 35 "HungryJury" "trial" "LHungryJury$Room;", Cond.methodLink RX5 131 yX2_copyFrom, Cond.instanceMethod yX2_copyFrom, Cond.selects RX2 yX2_copyFrom yX2_copyFrom, Cond.code yX2_copyFrom cX2_copyFrom 3 none, Cond.fieldLink RX2 28 "HungryJury$Room" "yes" "I", Cond.fieldLink RX2 35 "HungryJury$Room" "theHour" "I", Cond.fieldLink RX2 9 "HungryJury$Room" "stubborn" "[I"]
def wsX5_leastMoveFor_r2 : List Cond := [Cond.fieldLink RX2 15 "HungryJury$Room" "hunger" "[I", Cond.methodLink RX5 162 yX2_carryOut, Cond.instanceMethod yX2_carryOut, Cond.selects RX2 yX2_carryOut yX2_carryOut, Cond.code yX2_carryOut cX2_carryOut 3 none, Cond.methodLink RX2 87 Lib.Math.max.name, Cond.static Lib.Math.max.name, Cond.initialized "java/lang/Math", Cond.code Lib.Math.max.name Lib.Math.max.code 2 (some .int), Cond.methodLink RX2 84 yX2_passHour, Cond.instanceMethod yX2_passHour, Cond.selects RX2 yX2_passHour yX2_passHour, Cond.code yX2_passHour cX2_passHour 4 (some .int), Cond.methodLink RX2 52 yX2_verdict, Cond.instanceMethod yX2_verdict, Cond.selects RX2 yX2_verdict yX2_verdict, Cond.code yX2_verdict cX2_verdict 3 (some .int), Cond.methodLink RX2 39 yJ6_bitCount_0f7a4, Cond.static yJ6_bitCount_0f7a4, Cond.initialized RJ6, Cond.code yJ6_bitCount_0f7a4 cJ6_bitCount_0f7a4 1 (some .int), Cond.constant RJ6 265 (1431655765), Cond.constant RJ6 266 (858993459), Cond.constant RJ6 267 (252645135)]
def wsX5_leastMoveFor_r3 : List Cond := [Cond.methodLink RX2 45 yX2_carries, Cond.instanceMethod yX2_carries, Cond.selects RX2 yX2_carries yX2_carries, Cond.code yX2_carries cX2_carries 3 (some .boolean), Cond.fieldLink RX2 18 "HungryJury$Room" "panel" "LHungryJury$Panel;", Cond.fieldLink RX2 49 "HungryJury$Panel" "need" "I", Cond.methodLink RX2 56 yX2_growHungry, Cond.instanceMethod yX2_growHungry, Cond.selects RX2 yX2_growHungry yX2_growHungry, Cond.code yX2_growHungry cX2_growHungry 2 none, Cond.fieldLink RX2 66 "HungryJury$Panel" "kind" "[I", Cond.methodLink RX2 72 Lib.Math.min.name, Cond.static Lib.Math.min.name, Cond.code Lib.Math.min.name Lib.Math.min.code 2 (some .int), Cond.methodLink RX2 59 yX2_isThere, Cond.methodLink RX2 69 yX2_hungerOfHour, Cond.instanceMethod yX2_hungerOfHour, Cond.selects RX2 yX2_hungerOfHour yX2_hungerOfHour, Cond.code yX2_hungerOfHour cX2_hungerOfHour 2 (some .int), Cond.methodLink RX2 63 yX2_mustGiveIn, Cond.instanceMethod yX2_mustGiveIn, Cond.selects RX2 yX2_mustGiveIn yX2_mustGiveIn, Cond.code yX2_mustGiveIn cX2_mustGiveIn 5 (some .boolean), Cond.fieldLink RX2 81 "HungryJury$Panel" "heeded" "[I"]
def wsX5_leastMoveFor_r4 : List Cond := [Cond.methodLink RX2 78 yX2_isYes, Cond.instanceMethod yX2_isYes, Cond.selects RX2 yX2_isYes yX2_isYes, Cond.code yX2_isYes cX2_isYes 2 (some .boolean), Cond.methodLink RX5 137 yX2_passHoursToEnd, Cond.instanceMethod yX2_passHoursToEnd, Cond.selects RX2 yX2_passHoursToEnd yX2_passHoursToEnd, Cond.code yX2_passHoursToEnd cX2_passHoursToEnd 2 (some .int), Cond.methodLink RX5 140 yX2_verdict]
def wsX5_leastMoveFor : List Cond := .code yX5_leastMoveFor cX5_leastMoveFor 3 (some .int) :: ((wsX5_leastMoveFor_r1 ++ (wsX5_leastMoveFor_r2 ++ (wsX5_leastMoveFor_r3 ++ wsX5_leastMoveFor_r4))) ++ wsX50 ++ wsX20 ++ wsX10)
def wsX5_figuresOf : List Cond := .code yX5_figuresOf cX5_figuresOf 3 (some .int) :: ([])
def wsX5_toMove_r1 : List Cond := [Cond.methodLink RX5 143 yX5_isSide, Cond.static yX5_isSide, Cond.initialized RX5, Cond.code yX5_isSide cX5_isSide 1 (some .boolean), Cond.methodLink RX5 149 yX5_leastMoveFor, Cond.instanceMethod yX5_leastMoveFor, Cond.selects RX5 yX5_leastMoveFor yX5_leastMoveFor, Cond.code yX5_leastMoveFor cX5_leastMoveFor 3 (some .int), Cond.methodLink RX5 212 yX5_isMove, Cond.instanceMethod yX5_isMove, Cond.selects RX5 yX5_isMove yX5_isMove, Cond.code yX5_isMove cX5_isMove 5 (some .boolean), Cond.fieldLink RX5 31 "HungryJury" "now" "LHungryJury$Room;", Cond.methodLink RX5 100 yX2_isThere, Cond.instanceMethod yX2_isThere, Cond.selects RX2 yX2_isThere yX2_isThere, Cond.initialized RX2, Cond.code yX2_isThere cX2_isThere 2 (some .boolean), Cond.fieldLink RX2 32 "HungryJury$Room" "there" "I", Cond.methodLink RX5 215 yX5_endAfterMove, Cond.instanceMethod yX5_endAfterMove, Cond.selects RX5 yX5_endAfterMove yX5_endAfterMove, Cond.code yX5_endAfterMove cX5_endAfterMove 3 (some .int), Cond.fieldLink RX5 35 "HungryJury" "trial" "LHungryJury$Room;"]
def wsX5_toMove_r2 : List Cond := [Cond.methodLink RX5 131 yX2_copyFrom, Cond.instanceMethod yX2_copyFrom, Cond.selects RX2 yX2_copyFrom yX2_copyFrom, Cond.code yX2_copyFrom cX2_copyFrom 3 none, Cond.fieldLink RX2 28 "HungryJury$Room" "yes" "I", Cond.fieldLink RX2 35 "HungryJury$Room" "theHour" "I", Cond.fieldLink RX2 9 "HungryJury$Room" "stubborn" "[I", Cond.fieldLink RX2 15 "HungryJury$Room" "hunger" "[I", Cond.methodLink RX5 162 yX2_carryOut, Cond.instanceMethod yX2_carryOut, Cond.selects RX2 yX2_carryOut yX2_carryOut, Cond.code yX2_carryOut cX2_carryOut 3 none, Cond.methodLink RX2 87 Lib.Math.max.name, Cond.static Lib.Math.max.name, Cond.initialized "java/lang/Math", Cond.code Lib.Math.max.name Lib.Math.max.code 2 (some .int), Cond.methodLink RX2 84 yX2_passHour, Cond.instanceMethod yX2_passHour, Cond.selects RX2 yX2_passHour yX2_passHour, Cond.code yX2_passHour cX2_passHour 4 (some .int), Cond.methodLink RX2 52 yX2_verdict, Cond.instanceMethod yX2_verdict, Cond.selects RX2 yX2_verdict yX2_verdict, Cond.code yX2_verdict cX2_verdict 3 (some .int)]
def wsX5_toMove_r3 : List Cond := [Cond.methodLink RX2 39 yJ6_bitCount_0f7a4, Cond.static yJ6_bitCount_0f7a4, Cond.initialized RJ6, Cond.code yJ6_bitCount_0f7a4 cJ6_bitCount_0f7a4 1 (some .int), Cond.constant RJ6 265 (1431655765), Cond.constant RJ6 266 (858993459), Cond.constant RJ6 267 (252645135), Cond.methodLink RX2 45 yX2_carries, Cond.instanceMethod yX2_carries, Cond.selects RX2 yX2_carries yX2_carries, Cond.code yX2_carries cX2_carries 3 (some .boolean), Cond.fieldLink RX2 18 "HungryJury$Room" "panel" "LHungryJury$Panel;", Cond.fieldLink RX2 49 "HungryJury$Panel" "need" "I", Cond.methodLink RX2 56 yX2_growHungry, Cond.instanceMethod yX2_growHungry, Cond.selects RX2 yX2_growHungry yX2_growHungry, Cond.code yX2_growHungry cX2_growHungry 2 none, Cond.fieldLink RX2 66 "HungryJury$Panel" "kind" "[I", Cond.methodLink RX2 72 Lib.Math.min.name, Cond.static Lib.Math.min.name, Cond.code Lib.Math.min.name Lib.Math.min.code 2 (some .int), Cond.methodLink RX2 59 yX2_isThere, Cond.methodLink RX2 69 yX2_hungerOfHour, Cond.instanceMethod yX2_hungerOfHour]
def wsX5_toMove_r4 : List Cond := [Cond.selects RX2 yX2_hungerOfHour yX2_hungerOfHour, Cond.code yX2_hungerOfHour cX2_hungerOfHour 2 (some .int), Cond.methodLink RX2 63 yX2_mustGiveIn, Cond.instanceMethod yX2_mustGiveIn, Cond.selects RX2 yX2_mustGiveIn yX2_mustGiveIn, Cond.code yX2_mustGiveIn cX2_mustGiveIn 5 (some .boolean), Cond.fieldLink RX2 81 "HungryJury$Panel" "heeded" "[I", Cond.methodLink RX2 78 yX2_isYes, Cond.instanceMethod yX2_isYes, Cond.selects RX2 yX2_isYes yX2_isYes, Cond.code yX2_isYes cX2_isYes 2 (some .boolean), Cond.methodLink RX5 137 yX2_passHoursToEnd, Cond.instanceMethod yX2_passHoursToEnd, Cond.selects RX2 yX2_passHoursToEnd yX2_passHoursToEnd, Cond.code yX2_passHoursToEnd cX2_passHoursToEnd 2 (some .int), Cond.methodLink RX5 140 yX2_verdict, Cond.methodLink RX5 152 yX5_figuresOf, Cond.static yX5_figuresOf, Cond.code yX5_figuresOf cX5_figuresOf 3 (some .int)]
def wsX5_toMove : List Cond := .code yX5_toMove cX5_toMove 4 (some .int) :: ((wsX5_toMove_r1 ++ (wsX5_toMove_r2 ++ (wsX5_toMove_r3 ++ wsX5_toMove_r4))) ++ wsX50 ++ wsX20 ++ wsX10)
def wsX5_judge_r1 : List Cond := [Cond.fieldLink RX5 155 "HungryJury" "HUNDREDS" "[I", Cond.fieldLink RX5 35 "HungryJury" "trial" "LHungryJury$Room;", Cond.fieldLink RX5 31 "HungryJury" "now" "LHungryJury$Room;", Cond.methodLink RX5 131 yX2_copyFrom, Cond.instanceMethod yX2_copyFrom, Cond.selects RX2 yX2_copyFrom yX2_copyFrom, Cond.initialized RX2, Cond.code yX2_copyFrom cX2_copyFrom 3 none, Cond.fieldLink RX2 28 "HungryJury$Room" "yes" "I", Cond.fieldLink RX2 32 "HungryJury$Room" "there" "I", Cond.fieldLink RX2 35 "HungryJury$Room" "theHour" "I", Cond.fieldLink RX2 9 "HungryJury$Room" "stubborn" "[I", Cond.fieldLink RX2 15 "HungryJury$Room" "hunger" "[I", Cond.methodLink RX5 158 yX2_canDo, Cond.instanceMethod yX2_canDo, Cond.selects RX2 yX2_canDo yX2_canDo, Cond.code yX2_canDo cX2_canDo 3 (some .boolean), Cond.methodLink RX2 59 yX2_isThere, Cond.instanceMethod yX2_isThere, Cond.selects RX2 yX2_isThere yX2_isThere, Cond.code yX2_isThere cX2_isThere 2 (some .boolean), Cond.methodLink RX5 162 yX2_carryOut, Cond.instanceMethod yX2_carryOut, Cond.selects RX2 yX2_carryOut yX2_carryOut]
def wsX5_judge_r2 : List Cond := [Cond.code yX2_carryOut cX2_carryOut 3 none, Cond.methodLink RX2 87 Lib.Math.max.name, Cond.static Lib.Math.max.name, Cond.initialized "java/lang/Math", Cond.code Lib.Math.max.name Lib.Math.max.code 2 (some .int), Cond.methodLink RX2 84 yX2_passHour, Cond.instanceMethod yX2_passHour, Cond.selects RX2 yX2_passHour yX2_passHour, Cond.code yX2_passHour cX2_passHour 4 (some .int), Cond.methodLink RX2 52 yX2_verdict, Cond.instanceMethod yX2_verdict, Cond.selects RX2 yX2_verdict yX2_verdict, Cond.code yX2_verdict cX2_verdict 3 (some .int), Cond.methodLink RX2 39 yJ6_bitCount_0f7a4, Cond.static yJ6_bitCount_0f7a4, Cond.initialized RJ6, Cond.code yJ6_bitCount_0f7a4 cJ6_bitCount_0f7a4 1 (some .int), Cond.constant RJ6 265 (1431655765), Cond.constant RJ6 266 (858993459), Cond.constant RJ6 267 (252645135), Cond.methodLink RX2 45 yX2_carries, Cond.instanceMethod yX2_carries, Cond.selects RX2 yX2_carries yX2_carries, Cond.code yX2_carries cX2_carries 3 (some .boolean)]
def wsX5_judge_r3 : List Cond := [Cond.fieldLink RX2 18 "HungryJury$Room" "panel" "LHungryJury$Panel;", Cond.fieldLink RX2 49 "HungryJury$Panel" "need" "I", Cond.methodLink RX2 56 yX2_growHungry, Cond.instanceMethod yX2_growHungry, Cond.selects RX2 yX2_growHungry yX2_growHungry, Cond.code yX2_growHungry cX2_growHungry 2 none, Cond.fieldLink RX2 66 "HungryJury$Panel" "kind" "[I", Cond.methodLink RX2 72 Lib.Math.min.name, Cond.static Lib.Math.min.name, Cond.code Lib.Math.min.name Lib.Math.min.code 2 (some .int), Cond.methodLink RX2 69 yX2_hungerOfHour, Cond.instanceMethod yX2_hungerOfHour, Cond.selects RX2 yX2_hungerOfHour yX2_hungerOfHour, Cond.code yX2_hungerOfHour cX2_hungerOfHour 2 (some .int), Cond.methodLink RX2 63 yX2_mustGiveIn, Cond.instanceMethod yX2_mustGiveIn, Cond.selects RX2 yX2_mustGiveIn yX2_mustGiveIn, Cond.code yX2_mustGiveIn cX2_mustGiveIn 5 (some .boolean), Cond.fieldLink RX2 81 "HungryJury$Panel" "heeded" "[I", Cond.methodLink RX2 78 yX2_isYes, Cond.instanceMethod yX2_isYes, Cond.selects RX2 yX2_isYes yX2_isYes, Cond.code yX2_isYes cX2_isYes 2 (some .boolean)]
def wsX5_judge : List Cond := .code yX5_judge cX5_judge 7 (some .int) :: ((wsX5_judge_r1 ++ (wsX5_judge_r2 ++ wsX5_judge_r3)) ++ wsX50 ++ wsX20 ++ wsX10)
def wsX5_see : List Cond := .code yX5_see cX5_see 4 (some .int) :: ([.fieldLink RX5 56 "HungryJury" "sights" "LHungryJury$Sights;", .fieldLink RX5 169 "HungryJury$Sights" "size" "I", .methodLink RX5 81 yX5_isJuror, .instanceMethod yX5_isJuror, .selects RX5 yX5_isJuror yX5_isJuror, .initialized RX5, .code yX5_isJuror cX5_isJuror 2 (some .boolean), .fieldLink RX5 19 "HungryJury" "panel" "LHungryJury$Panel;", .fieldLink RX5 78 "HungryJury$Panel" "jurors" "I", .methodLink RX5 143 yX5_isSide, .static yX5_isSide, .code yX5_isSide cX5_isSide 1 (some .boolean), .methodLink RX5 166 yX3_add, .instanceMethod yX3_add, .selects RX3 yX3_add yX3_add, .initialized RX3, .code yX3_add cX3_add 4 (some .boolean), .fieldLink RX3 21 "HungryJury$Sights" "size" "I", .fieldLink RX3 9 "HungryJury$Sights" "who" "[I", .fieldLink RX3 15 "HungryJury$Sights" "hours" "[I", .fieldLink RX3 18 "HungryJury$Sights" "side" "[I"] ++ wsX50 ++ wsX30 ++ wsX10)
def wsX5_unsee : List Cond := .code yX5_unsee cX5_unsee 2 (some .int) :: ([.fieldLink RX5 56 "HungryJury" "sights" "LHungryJury$Sights;", .fieldLink RX5 169 "HungryJury$Sights" "size" "I"] ++ wsX50 ++ wsX30)
def wsX5_fitsWhatIsSeen_r1 : List Cond := [Cond.fieldLink RX5 35 "HungryJury" "trial" "LHungryJury$Room;", Cond.fieldLink RX5 31 "HungryJury" "now" "LHungryJury$Room;", Cond.fieldLink RX5 218 "HungryJury$Room" "yes" "I", Cond.fieldLink RX5 56 "HungryJury" "sights" "LHungryJury$Sights;", Cond.methodLink RX5 131 yX2_copyFrom, Cond.instanceMethod yX2_copyFrom, Cond.selects RX2 yX2_copyFrom yX2_copyFrom, Cond.initialized RX2, Cond.code yX2_copyFrom cX2_copyFrom 3 none, Cond.fieldLink RX2 28 "HungryJury$Room" "yes" "I", Cond.fieldLink RX2 32 "HungryJury$Room" "there" "I", Cond.fieldLink RX2 35 "HungryJury$Room" "theHour" "I", Cond.fieldLink RX2 9 "HungryJury$Room" "stubborn" "[I", Cond.fieldLink RX2 15 "HungryJury$Room" "hunger" "[I", Cond.methodLink RX5 221 yX3_fit, Cond.instanceMethod yX3_fit, Cond.selects RX3 yX3_fit yX3_fit, Cond.initialized RX3, Cond.code yX3_fit cX3_fit 5 (some .boolean), Cond.fieldLink RX3 21 "HungryJury$Sights" "size" "I", Cond.fieldLink RX3 15 "HungryJury$Sights" "hours" "[I", Cond.fieldLink RX3 9 "HungryJury$Sights" "who" "[I", Cond.fieldLink RX3 18 "HungryJury$Sights" "side" "[I", Cond.methodLink RX3 25 yX2_isThere]
def wsX5_fitsWhatIsSeen_r2 : List Cond := [Cond.instanceMethod yX2_isThere, Cond.selects RX2 yX2_isThere yX2_isThere, Cond.code yX2_isThere cX2_isThere 2 (some .boolean), Cond.methodLink RX3 31 yX2_isYes, Cond.instanceMethod yX2_isYes, Cond.selects RX2 yX2_isYes yX2_isYes, Cond.code yX2_isYes cX2_isYes 2 (some .boolean), Cond.methodLink RX5 107 yX2_passHour, Cond.instanceMethod yX2_passHour, Cond.selects RX2 yX2_passHour yX2_passHour, Cond.code yX2_passHour cX2_passHour 4 (some .int), Cond.methodLink RX2 52 yX2_verdict, Cond.instanceMethod yX2_verdict, Cond.selects RX2 yX2_verdict yX2_verdict, Cond.code yX2_verdict cX2_verdict 3 (some .int), Cond.methodLink RX2 39 yJ6_bitCount_0f7a4, Cond.static yJ6_bitCount_0f7a4, Cond.initialized RJ6, Cond.code yJ6_bitCount_0f7a4 cJ6_bitCount_0f7a4 1 (some .int), Cond.constant RJ6 265 (1431655765), Cond.constant RJ6 266 (858993459), Cond.constant RJ6 267 (252645135), Cond.methodLink RX2 45 yX2_carries, Cond.instanceMethod yX2_carries]
def wsX5_fitsWhatIsSeen_r3 : List Cond := [Cond.selects RX2 yX2_carries yX2_carries, Cond.code yX2_carries cX2_carries 3 (some .boolean), Cond.fieldLink RX2 18 "HungryJury$Room" "panel" "LHungryJury$Panel;", Cond.fieldLink RX2 49 "HungryJury$Panel" "need" "I", Cond.methodLink RX2 56 yX2_growHungry, Cond.instanceMethod yX2_growHungry, Cond.selects RX2 yX2_growHungry yX2_growHungry, Cond.code yX2_growHungry cX2_growHungry 2 none, Cond.fieldLink RX2 66 "HungryJury$Panel" "kind" "[I", Cond.methodLink RX2 72 Lib.Math.min.name, Cond.static Lib.Math.min.name, Cond.initialized "java/lang/Math", Cond.code Lib.Math.min.name Lib.Math.min.code 2 (some .int), Cond.methodLink RX2 59 yX2_isThere, Cond.methodLink RX2 69 yX2_hungerOfHour, Cond.instanceMethod yX2_hungerOfHour, Cond.selects RX2 yX2_hungerOfHour yX2_hungerOfHour, Cond.code yX2_hungerOfHour cX2_hungerOfHour 2 (some .int), Cond.methodLink RX2 63 yX2_mustGiveIn, Cond.instanceMethod yX2_mustGiveIn, Cond.selects RX2 yX2_mustGiveIn yX2_mustGiveIn, Cond.code yX2_mustGiveIn cX2_mustGiveIn 5 (some .boolean), Cond.fieldLink RX2 81 "HungryJury$Panel" "heeded" "[I", Cond.methodLink RX2 78 yX2_isYes]
def wsX5_fitsWhatIsSeen : List Cond := .code yX5_fitsWhatIsSeen cX5_fitsWhatIsSeen 3 (some .boolean) :: ((wsX5_fitsWhatIsSeen_r1 ++ (wsX5_fitsWhatIsSeen_r2 ++ wsX5_fitsWhatIsSeen_r3)) ++ wsX50 ++ wsX20 ++ wsX30 ++ wsX10)
def wsX5_first_r1 : List Cond := [Cond.fieldLink RX5 31 "HungryJury" "now" "LHungryJury$Room;", Cond.fieldLink RX5 121 "HungryJury$Room" "there" "I", Cond.methodLink RX5 170 yX5_fitsWhatIsSeen, Cond.instanceMethod yX5_fitsWhatIsSeen, Cond.selects RX5 yX5_fitsWhatIsSeen yX5_fitsWhatIsSeen, Cond.initialized RX5, Cond.code yX5_fitsWhatIsSeen cX5_fitsWhatIsSeen 3 (some .boolean), Cond.fieldLink RX5 35 "HungryJury" "trial" "LHungryJury$Room;", Cond.fieldLink RX5 218 "HungryJury$Room" "yes" "I", Cond.fieldLink RX5 56 "HungryJury" "sights" "LHungryJury$Sights;", Cond.methodLink RX5 131 yX2_copyFrom, Cond.instanceMethod yX2_copyFrom, Cond.selects RX2 yX2_copyFrom yX2_copyFrom, Cond.initialized RX2, Cond.code yX2_copyFrom cX2_copyFrom 3 none, Cond.fieldLink RX2 28 "HungryJury$Room" "yes" "I", Cond.fieldLink RX2 32 "HungryJury$Room" "there" "I", Cond.fieldLink RX2 35 "HungryJury$Room" "theHour" "I", Cond.fieldLink RX2 9 "HungryJury$Room" "stubborn" "[I", Cond.fieldLink RX2 15 "HungryJury$Room" "hunger" "[I", Cond.methodLink RX5 221 yX3_fit, Cond.instanceMethod yX3_fit, Cond.selects RX3 yX3_fit yX3_fit, Cond.initialized RX3]
def wsX5_first_r2 : List Cond := [Cond.code yX3_fit cX3_fit 5 (some .boolean), Cond.fieldLink RX3 21 "HungryJury$Sights" "size" "I", Cond.fieldLink RX3 15 "HungryJury$Sights" "hours" "[I", Cond.fieldLink RX3 9 "HungryJury$Sights" "who" "[I", Cond.fieldLink RX3 18 "HungryJury$Sights" "side" "[I", Cond.methodLink RX3 25 yX2_isThere, Cond.instanceMethod yX2_isThere, Cond.selects RX2 yX2_isThere yX2_isThere, Cond.code yX2_isThere cX2_isThere 2 (some .boolean), Cond.methodLink RX3 31 yX2_isYes, Cond.instanceMethod yX2_isYes, Cond.selects RX2 yX2_isYes yX2_isYes, Cond.code yX2_isYes cX2_isYes 2 (some .boolean), Cond.methodLink RX5 107 yX2_passHour, Cond.instanceMethod yX2_passHour, Cond.selects RX2 yX2_passHour yX2_passHour, Cond.code yX2_passHour cX2_passHour 4 (some .int), Cond.methodLink RX2 52 yX2_verdict, Cond.instanceMethod yX2_verdict, Cond.selects RX2 yX2_verdict yX2_verdict, Cond.code yX2_verdict cX2_verdict 3 (some .int), Cond.methodLink RX2 39 yJ6_bitCount_0f7a4, Cond.static yJ6_bitCount_0f7a4, Cond.initialized RJ6]
def wsX5_first_r3 : List Cond := [Cond.code yJ6_bitCount_0f7a4 cJ6_bitCount_0f7a4 1 (some .int), Cond.constant RJ6 265 (1431655765), Cond.constant RJ6 266 (858993459), Cond.constant RJ6 267 (252645135), Cond.methodLink RX2 45 yX2_carries, Cond.instanceMethod yX2_carries, Cond.selects RX2 yX2_carries yX2_carries, Cond.code yX2_carries cX2_carries 3 (some .boolean), Cond.fieldLink RX2 18 "HungryJury$Room" "panel" "LHungryJury$Panel;", Cond.fieldLink RX2 49 "HungryJury$Panel" "need" "I", Cond.methodLink RX2 56 yX2_growHungry, Cond.instanceMethod yX2_growHungry, Cond.selects RX2 yX2_growHungry yX2_growHungry, Cond.code yX2_growHungry cX2_growHungry 2 none, Cond.fieldLink RX2 66 "HungryJury$Panel" "kind" "[I", Cond.methodLink RX2 72 Lib.Math.min.name, Cond.static Lib.Math.min.name, Cond.initialized "java/lang/Math", Cond.code Lib.Math.min.name Lib.Math.min.code 2 (some .int), Cond.methodLink RX2 59 yX2_isThere, Cond.methodLink RX2 69 yX2_hungerOfHour, Cond.instanceMethod yX2_hungerOfHour, Cond.selects RX2 yX2_hungerOfHour yX2_hungerOfHour, Cond.code yX2_hungerOfHour cX2_hungerOfHour 2 (some .int)]
def wsX5_first_r4 : List Cond := [Cond.methodLink RX2 63 yX2_mustGiveIn, Cond.instanceMethod yX2_mustGiveIn, Cond.selects RX2 yX2_mustGiveIn yX2_mustGiveIn, Cond.code yX2_mustGiveIn cX2_mustGiveIn 5 (some .boolean), Cond.fieldLink RX2 81 "HungryJury$Panel" "heeded" "[I", Cond.methodLink RX2 78 yX2_isYes]
def wsX5_first : List Cond := .code yX5_first cX5_first 6 (some .int) :: ((wsX5_first_r1 ++ (wsX5_first_r2 ++ (wsX5_first_r3 ++ wsX5_first_r4))) ++ wsX50 ++ wsX20 ++ wsX30 ++ wsX10)
def wsX5_commonDivisor : List Cond := .code yX5_commonDivisor cX5_commonDivisor 6 (some .int) :: ([])
def wsX5_partOfFraction : List Cond := .code yX5_partOfFraction cX5_partOfFraction 4 (some .int) :: ([.methodLink RX5 228 Lib.Math.abs.name, .static Lib.Math.abs.name, .initialized "java/lang/Math", .code Lib.Math.abs.name Lib.Math.abs.code 1 (some .int), .methodLink RX5 233 yX5_commonDivisor, .static yX5_commonDivisor, .initialized RX5, .code yX5_commonDivisor cX5_commonDivisor 6 (some .int)])
def wsX5_endIsYesFrom_r1 : List Cond := [Cond.fieldLink RX5 35 "HungryJury" "trial" "LHungryJury$Room;", Cond.fieldLink RX5 31 "HungryJury" "now" "LHungryJury$Room;", Cond.fieldLink RX5 218 "HungryJury$Room" "yes" "I", Cond.methodLink RX5 131 yX2_copyFrom, Cond.instanceMethod yX2_copyFrom, Cond.selects RX2 yX2_copyFrom yX2_copyFrom, Cond.initialized RX2, Cond.code yX2_copyFrom cX2_copyFrom 3 none, Cond.fieldLink RX2 28 "HungryJury$Room" "yes" "I", Cond.fieldLink RX2 32 "HungryJury$Room" "there" "I", Cond.fieldLink RX2 35 "HungryJury$Room" "theHour" "I", Cond.fieldLink RX2 9 "HungryJury$Room" "stubborn" "[I", Cond.fieldLink RX2 15 "HungryJury$Room" "hunger" "[I", Cond.methodLink RX5 137 yX2_passHoursToEnd, Cond.instanceMethod yX2_passHoursToEnd, Cond.selects RX2 yX2_passHoursToEnd yX2_passHoursToEnd, Cond.code yX2_passHoursToEnd cX2_passHoursToEnd 2 (some .int), Cond.methodLink RX2 52 yX2_verdict, Cond.instanceMethod yX2_verdict, Cond.selects RX2 yX2_verdict yX2_verdict, Cond.code yX2_verdict cX2_verdict 3 (some .int), Cond.methodLink RX2 39 yJ6_bitCount_0f7a4, Cond.static yJ6_bitCount_0f7a4, Cond.initialized RJ6]
def wsX5_endIsYesFrom_r2 : List Cond := [Cond.code yJ6_bitCount_0f7a4 cJ6_bitCount_0f7a4 1 (some .int), Cond.constant RJ6 265 (1431655765), Cond.constant RJ6 266 (858993459), Cond.constant RJ6 267 (252645135), Cond.methodLink RX2 45 yX2_carries, Cond.instanceMethod yX2_carries, Cond.selects RX2 yX2_carries yX2_carries, Cond.code yX2_carries cX2_carries 3 (some .boolean), Cond.fieldLink RX2 18 "HungryJury$Room" "panel" "LHungryJury$Panel;", Cond.fieldLink RX2 49 "HungryJury$Panel" "need" "I", Cond.methodLink RX2 84 yX2_passHour, Cond.instanceMethod yX2_passHour, Cond.selects RX2 yX2_passHour yX2_passHour, Cond.code yX2_passHour cX2_passHour 4 (some .int), Cond.methodLink RX2 56 yX2_growHungry, Cond.instanceMethod yX2_growHungry, Cond.selects RX2 yX2_growHungry yX2_growHungry, Cond.code yX2_growHungry cX2_growHungry 2 none, Cond.fieldLink RX2 66 "HungryJury$Panel" "kind" "[I", Cond.methodLink RX2 72 Lib.Math.min.name, Cond.static Lib.Math.min.name, Cond.initialized "java/lang/Math", Cond.code Lib.Math.min.name Lib.Math.min.code 2 (some .int), Cond.methodLink RX2 59 yX2_isThere]
def wsX5_endIsYesFrom_r3 : List Cond := [Cond.instanceMethod yX2_isThere, Cond.selects RX2 yX2_isThere yX2_isThere, Cond.code yX2_isThere cX2_isThere 2 (some .boolean), Cond.methodLink RX2 69 yX2_hungerOfHour, Cond.instanceMethod yX2_hungerOfHour, Cond.selects RX2 yX2_hungerOfHour yX2_hungerOfHour, Cond.code yX2_hungerOfHour cX2_hungerOfHour 2 (some .int), Cond.methodLink RX2 63 yX2_mustGiveIn, Cond.instanceMethod yX2_mustGiveIn, Cond.selects RX2 yX2_mustGiveIn yX2_mustGiveIn, Cond.code yX2_mustGiveIn cX2_mustGiveIn 5 (some .boolean), Cond.fieldLink RX2 81 "HungryJury$Panel" "heeded" "[I", Cond.methodLink RX2 78 yX2_isYes, Cond.instanceMethod yX2_isYes, Cond.selects RX2 yX2_isYes yX2_isYes, Cond.code yX2_isYes cX2_isYes 2 (some .boolean), Cond.methodLink RX5 140 yX2_verdict]
def wsX5_endIsYesFrom : List Cond := .code yX5_endIsYesFrom cX5_endIsYesFrom 2 (some .int) :: ((wsX5_endIsYesFrom_r1 ++ (wsX5_endIsYesFrom_r2 ++ wsX5_endIsYesFrom_r3)) ++ wsX50 ++ wsX20 ++ wsX10)
def wsX5_factorial : List Cond := .code yX5_factorial cX5_factorial 1 (some .int) :: ([.fieldLink RX5 225 "HungryJury" "FACTORIALS" "[I"])
def wsX5_ordersWith : List Cond := .code yX5_ordersWith cX5_ordersWith 2 (some .int) :: ([.methodLink RX5 183 yX5_factorial, .static yX5_factorial, .initialized RX5, .code yX5_factorial cX5_factorial 1 (some .int), .fieldLink RX5 225 "HungryJury" "FACTORIALS" "[I"])
def wsX5_share_r1 : List Cond := [Cond.fieldLink RX5 31 "HungryJury" "now" "LHungryJury$Room;", Cond.fieldLink RX5 121 "HungryJury$Room" "there" "I", Cond.methodLink RX5 81 yX5_isJuror, Cond.instanceMethod yX5_isJuror, Cond.selects RX5 yX5_isJuror yX5_isJuror, Cond.initialized RX5, Cond.code yX5_isJuror cX5_isJuror 2 (some .boolean), Cond.fieldLink RX5 19 "HungryJury" "panel" "LHungryJury$Panel;", Cond.fieldLink RX5 78 "HungryJury$Panel" "jurors" "I", Cond.methodLink RX5 100 yX2_isThere, Cond.instanceMethod yX2_isThere, Cond.selects RX2 yX2_isThere yX2_isThere, Cond.initialized RX2, Cond.code yX2_isThere cX2_isThere 2 (some .boolean), Cond.fieldLink RX2 32 "HungryJury$Room" "there" "I", Cond.methodLink RX5 173 yX5_partOfFraction, Cond.static yX5_partOfFraction, Cond.code yX5_partOfFraction cX5_partOfFraction 4 (some .int), Cond.methodLink RX5 228 Lib.Math.abs.name, Cond.static Lib.Math.abs.name, Cond.initialized "java/lang/Math", Cond.code Lib.Math.abs.name Lib.Math.abs.code 1 (some .int), Cond.methodLink RX5 233 yX5_commonDivisor, Cond.static yX5_commonDivisor]
def wsX5_share_r2 : List Cond := [Cond.code yX5_commonDivisor cX5_commonDivisor 6 (some .int), Cond.methodLink RX5 177 yX5_endIsYesFrom, Cond.instanceMethod yX5_endIsYesFrom, Cond.selects RX5 yX5_endIsYesFrom yX5_endIsYesFrom, Cond.code yX5_endIsYesFrom cX5_endIsYesFrom 2 (some .int), Cond.fieldLink RX5 35 "HungryJury" "trial" "LHungryJury$Room;", Cond.fieldLink RX5 218 "HungryJury$Room" "yes" "I", Cond.methodLink RX5 131 yX2_copyFrom, Cond.instanceMethod yX2_copyFrom, Cond.selects RX2 yX2_copyFrom yX2_copyFrom, Cond.code yX2_copyFrom cX2_copyFrom 3 none, Cond.fieldLink RX2 28 "HungryJury$Room" "yes" "I", Cond.fieldLink RX2 35 "HungryJury$Room" "theHour" "I", Cond.fieldLink RX2 9 "HungryJury$Room" "stubborn" "[I", Cond.fieldLink RX2 15 "HungryJury$Room" "hunger" "[I", Cond.methodLink RX5 137 yX2_passHoursToEnd, Cond.instanceMethod yX2_passHoursToEnd, Cond.selects RX2 yX2_passHoursToEnd yX2_passHoursToEnd, Cond.code yX2_passHoursToEnd cX2_passHoursToEnd 2 (some .int), Cond.methodLink RX2 52 yX2_verdict, Cond.instanceMethod yX2_verdict, Cond.selects RX2 yX2_verdict yX2_verdict, Cond.code yX2_verdict cX2_verdict 3 (some .int), Cond.methodLink RX2 39 yJ6_bitCount_0f7a4]
def wsX5_share_r3 : List Cond := [Cond.static yJ6_bitCount_0f7a4, Cond.initialized RJ6, Cond.code yJ6_bitCount_0f7a4 cJ6_bitCount_0f7a4 1 (some .int), Cond.constant RJ6 265 (1431655765), Cond.constant RJ6 266 (858993459), Cond.constant RJ6 267 (252645135), Cond.methodLink RX2 45 yX2_carries, Cond.instanceMethod yX2_carries, Cond.selects RX2 yX2_carries yX2_carries, Cond.code yX2_carries cX2_carries 3 (some .boolean), Cond.fieldLink RX2 18 "HungryJury$Room" "panel" "LHungryJury$Panel;", Cond.fieldLink RX2 49 "HungryJury$Panel" "need" "I", Cond.methodLink RX2 84 yX2_passHour, Cond.instanceMethod yX2_passHour, Cond.selects RX2 yX2_passHour yX2_passHour, Cond.code yX2_passHour cX2_passHour 4 (some .int), Cond.methodLink RX2 56 yX2_growHungry, Cond.instanceMethod yX2_growHungry, Cond.selects RX2 yX2_growHungry yX2_growHungry, Cond.code yX2_growHungry cX2_growHungry 2 none, Cond.fieldLink RX2 66 "HungryJury$Panel" "kind" "[I", Cond.methodLink RX2 72 Lib.Math.min.name, Cond.static Lib.Math.min.name, Cond.code Lib.Math.min.name Lib.Math.min.code 2 (some .int)]
def wsX5_share_r4 : List Cond := [Cond.methodLink RX2 59 yX2_isThere, Cond.methodLink RX2 69 yX2_hungerOfHour, Cond.instanceMethod yX2_hungerOfHour, Cond.selects RX2 yX2_hungerOfHour yX2_hungerOfHour, Cond.code yX2_hungerOfHour cX2_hungerOfHour 2 (some .int), Cond.methodLink RX2 63 yX2_mustGiveIn, Cond.instanceMethod yX2_mustGiveIn, Cond.selects RX2 yX2_mustGiveIn yX2_mustGiveIn, Cond.code yX2_mustGiveIn cX2_mustGiveIn 5 (some .boolean), Cond.fieldLink RX2 81 "HungryJury$Panel" "heeded" "[I", Cond.methodLink RX2 78 yX2_isYes, Cond.instanceMethod yX2_isYes, Cond.selects RX2 yX2_isYes yX2_isYes, Cond.code yX2_isYes cX2_isYes 2 (some .boolean), Cond.methodLink RX5 140 yX2_verdict, Cond.methodLink RX5 111 yJ6_bitCount_0f7a4, Cond.methodLink RX5 180 yX5_ordersWith, Cond.static yX5_ordersWith, Cond.code yX5_ordersWith cX5_ordersWith 2 (some .int), Cond.methodLink RX5 183 yX5_factorial, Cond.static yX5_factorial, Cond.code yX5_factorial cX5_factorial 1 (some .int), Cond.fieldLink RX5 225 "HungryJury" "FACTORIALS" "[I"]
def wsX5_share : List Cond := .code yX5_share cX5_share 7 (some .int) :: ((wsX5_share_r1 ++ (wsX5_share_r2 ++ (wsX5_share_r3 ++ wsX5_share_r4))) ++ wsX50 ++ wsX20 ++ wsX10)
def wsX5_lossOf : List Cond := .code yX5_lossOf cX5_lossOf 7 (some .int) :: ([.fieldLink RX5 19 "HungryJury" "panel" "LHungryJury$Panel;", .fieldLink RX5 91 "HungryJury$Panel" "kind" "[I", .methodLink RX5 240 Lib.Math.min.name, .static Lib.Math.min.name, .initialized "java/lang/Math", .code Lib.Math.min.name Lib.Math.min.code 2 (some .int), .methodLink RX5 81 yX5_isJuror, .instanceMethod yX5_isJuror, .selects RX5 yX5_isJuror yX5_isJuror, .initialized RX5, .code yX5_isJuror cX5_isJuror 2 (some .boolean), .fieldLink RX5 78 "HungryJury$Panel" "jurors" "I"] ++ wsX50 ++ wsX10)
def wsX5_isBestWait : List Cond := .code yX5_isBestWait cX5_isBestWait 7 (some .boolean) :: ([.methodLink RX5 236 yX5_lossOf, .instanceMethod yX5_lossOf, .selects RX5 yX5_lossOf yX5_lossOf, .initialized RX5, .code yX5_lossOf cX5_lossOf 7 (some .int), .fieldLink RX5 19 "HungryJury" "panel" "LHungryJury$Panel;", .fieldLink RX5 91 "HungryJury$Panel" "kind" "[I", .methodLink RX5 240 Lib.Math.min.name, .static Lib.Math.min.name, .initialized "java/lang/Math", .code Lib.Math.min.name Lib.Math.min.code 2 (some .int), .methodLink RX5 81 yX5_isJuror, .instanceMethod yX5_isJuror, .selects RX5 yX5_isJuror yX5_isJuror, .code yX5_isJuror cX5_isJuror 2 (some .boolean), .fieldLink RX5 78 "HungryJury$Panel" "jurors" "I"] ++ wsX50 ++ wsX10)
def wsX5_rests : List Cond := .code yX5_rests cX5_rests 8 (some .int) :: ([.methodLink RX5 81 yX5_isJuror, .instanceMethod yX5_isJuror, .selects RX5 yX5_isJuror yX5_isJuror, .initialized RX5, .code yX5_isJuror cX5_isJuror 2 (some .boolean), .fieldLink RX5 19 "HungryJury" "panel" "LHungryJury$Panel;", .fieldLink RX5 78 "HungryJury$Panel" "jurors" "I", .methodLink RX5 186 yX5_isBestWait, .instanceMethod yX5_isBestWait, .selects RX5 yX5_isBestWait yX5_isBestWait, .code yX5_isBestWait cX5_isBestWait 7 (some .boolean), .methodLink RX5 236 yX5_lossOf, .instanceMethod yX5_lossOf, .selects RX5 yX5_lossOf yX5_lossOf, .code yX5_lossOf cX5_lossOf 7 (some .int), .fieldLink RX5 91 "HungryJury$Panel" "kind" "[I", .methodLink RX5 240 Lib.Math.min.name, .static Lib.Math.min.name, .initialized "java/lang/Math", .code Lib.Math.min.name Lib.Math.min.code 2 (some .int)] ++ wsX50 ++ wsX10)
def wsX5_power : List Cond := .code yX5_power cX5_power 4 (some .int) :: ([])
def wsX5_coins_r1 : List Cond := [Cond.fieldLink RX5 31 "HungryJury" "now" "LHungryJury$Room;", Cond.fieldLink RX5 121 "HungryJury$Room" "there" "I", Cond.methodLink RX5 143 yX5_isSide, Cond.static yX5_isSide, Cond.initialized RX5, Cond.code yX5_isSide cX5_isSide 1 (some .boolean), Cond.methodLink RX5 111 yJ6_bitCount_0f7a4, Cond.static yJ6_bitCount_0f7a4, Cond.initialized RJ6, Cond.code yJ6_bitCount_0f7a4 cJ6_bitCount_0f7a4 1 (some .int), Cond.constant RJ6 265 (1431655765), Cond.constant RJ6 266 (858993459), Cond.constant RJ6 267 (252645135), Cond.methodLink RX5 190 yX5_power, Cond.static yX5_power, Cond.code yX5_power cX5_power 4 (some .int), Cond.methodLink RX5 193 yX5_endAfter, Cond.instanceMethod yX5_endAfter, Cond.selects RX5 yX5_endAfter yX5_endAfter, Cond.code yX5_endAfter cX5_endAfter 4 (some .int), Cond.fieldLink RX5 35 "HungryJury" "trial" "LHungryJury$Room;", Cond.methodLink RX5 131 yX2_copyFrom, Cond.instanceMethod yX2_copyFrom, Cond.selects RX2 yX2_copyFrom yX2_copyFrom]
def wsX5_coins_r2 : List Cond := [Cond.initialized RX2, Cond.code yX2_copyFrom cX2_copyFrom 3 none, Cond.fieldLink RX2 28 "HungryJury$Room" "yes" "I", Cond.fieldLink RX2 32 "HungryJury$Room" "there" "I", Cond.fieldLink RX2 35 "HungryJury$Room" "theHour" "I", Cond.fieldLink RX2 9 "HungryJury$Room" "stubborn" "[I", Cond.fieldLink RX2 15 "HungryJury$Room" "hunger" "[I", Cond.methodLink RX5 162 yX2_carryOut, Cond.instanceMethod yX2_carryOut, Cond.selects RX2 yX2_carryOut yX2_carryOut, Cond.code yX2_carryOut cX2_carryOut 3 none, Cond.methodLink RX2 87 Lib.Math.max.name, Cond.static Lib.Math.max.name, Cond.initialized "java/lang/Math", Cond.code Lib.Math.max.name Lib.Math.max.code 2 (some .int), Cond.methodLink RX2 84 yX2_passHour, Cond.instanceMethod yX2_passHour, Cond.selects RX2 yX2_passHour yX2_passHour, Cond.code yX2_passHour cX2_passHour 4 (some .int), Cond.methodLink RX2 52 yX2_verdict, Cond.instanceMethod yX2_verdict, Cond.selects RX2 yX2_verdict yX2_verdict, Cond.code yX2_verdict cX2_verdict 3 (some .int), Cond.methodLink RX2 39 yJ6_bitCount_0f7a4]
def wsX5_coins_r3 : List Cond := [Cond.methodLink RX2 45 yX2_carries, Cond.instanceMethod yX2_carries, Cond.selects RX2 yX2_carries yX2_carries, Cond.code yX2_carries cX2_carries 3 (some .boolean), Cond.fieldLink RX2 18 "HungryJury$Room" "panel" "LHungryJury$Panel;", Cond.fieldLink RX2 49 "HungryJury$Panel" "need" "I", Cond.methodLink RX2 56 yX2_growHungry, Cond.instanceMethod yX2_growHungry, Cond.selects RX2 yX2_growHungry yX2_growHungry, Cond.code yX2_growHungry cX2_growHungry 2 none, Cond.fieldLink RX2 66 "HungryJury$Panel" "kind" "[I", Cond.methodLink RX2 72 Lib.Math.min.name, Cond.static Lib.Math.min.name, Cond.code Lib.Math.min.name Lib.Math.min.code 2 (some .int), Cond.methodLink RX2 59 yX2_isThere, Cond.instanceMethod yX2_isThere, Cond.selects RX2 yX2_isThere yX2_isThere, Cond.code yX2_isThere cX2_isThere 2 (some .boolean), Cond.methodLink RX2 69 yX2_hungerOfHour, Cond.instanceMethod yX2_hungerOfHour, Cond.selects RX2 yX2_hungerOfHour yX2_hungerOfHour, Cond.code yX2_hungerOfHour cX2_hungerOfHour 2 (some .int), Cond.methodLink RX2 63 yX2_mustGiveIn, Cond.instanceMethod yX2_mustGiveIn]
def wsX5_coins_r4 : List Cond := [Cond.selects RX2 yX2_mustGiveIn yX2_mustGiveIn, Cond.code yX2_mustGiveIn cX2_mustGiveIn 5 (some .boolean), Cond.fieldLink RX2 81 "HungryJury$Panel" "heeded" "[I", Cond.methodLink RX2 78 yX2_isYes, Cond.instanceMethod yX2_isYes, Cond.selects RX2 yX2_isYes yX2_isYes, Cond.code yX2_isYes cX2_isYes 2 (some .boolean), Cond.methodLink RX5 137 yX2_passHoursToEnd, Cond.instanceMethod yX2_passHoursToEnd, Cond.selects RX2 yX2_passHoursToEnd yX2_passHoursToEnd, Cond.code yX2_passHoursToEnd cX2_passHoursToEnd 2 (some .int), Cond.methodLink RX5 140 yX2_verdict, Cond.methodLink RX5 173 yX5_partOfFraction, Cond.static yX5_partOfFraction, Cond.code yX5_partOfFraction cX5_partOfFraction 4 (some .int), Cond.methodLink RX5 228 Lib.Math.abs.name, Cond.static Lib.Math.abs.name, Cond.code Lib.Math.abs.name Lib.Math.abs.code 1 (some .int), Cond.methodLink RX5 233 yX5_commonDivisor, Cond.static yX5_commonDivisor, Cond.code yX5_commonDivisor cX5_commonDivisor 6 (some .int)]
def wsX5_coins : List Cond := .code yX5_coins cX5_coins 7 (some .int) :: ((wsX5_coins_r1 ++ (wsX5_coins_r2 ++ (wsX5_coins_r3 ++ wsX5_coins_r4))) ++ wsX50 ++ wsX20 ++ wsX10)
def wsX5_seed : List Cond := .code yX5_seed cX5_seed 5 (some .long) :: ([.fieldLink RX5 196 "HungryJury" "theSeed" "J"] ++ wsX50)
def wsX5_assizes_r1 : List Cond := [Cond.fieldLink RX5 35 "HungryJury" "trial" "LHungryJury$Room;", Cond.fieldLink RX5 31 "HungryJury" "now" "LHungryJury$Room;", Cond.fieldLink RX5 196 "HungryJury" "theSeed" "J", Cond.constantLong RX5 200 (6364136223846793005), Cond.constantLong RX5 202 (1442695040888963407), Cond.constantLong RX5 204 (9), Cond.methodLink RX5 131 yX2_copyFrom, Cond.instanceMethod yX2_copyFrom, Cond.selects RX2 yX2_copyFrom yX2_copyFrom, Cond.initialized RX2, Cond.code yX2_copyFrom cX2_copyFrom 3 none, Cond.fieldLink RX2 28 "HungryJury$Room" "yes" "I", Cond.fieldLink RX2 32 "HungryJury$Room" "there" "I", Cond.fieldLink RX2 35 "HungryJury$Room" "theHour" "I", Cond.fieldLink RX2 9 "HungryJury$Room" "stubborn" "[I", Cond.fieldLink RX2 15 "HungryJury$Room" "hunger" "[I", Cond.methodLink RX5 107 yX2_passHour, Cond.instanceMethod yX2_passHour, Cond.selects RX2 yX2_passHour yX2_passHour, Cond.code yX2_passHour cX2_passHour 4 (some .int), Cond.methodLink RX2 52 yX2_verdict, Cond.instanceMethod yX2_verdict, Cond.selects RX2 yX2_verdict yX2_verdict, Cond.code yX2_verdict cX2_verdict 3 (some .int)]
def wsX5_assizes_r2 : List Cond := [Cond.methodLink RX2 39 yJ6_bitCount_0f7a4, Cond.static yJ6_bitCount_0f7a4, Cond.initialized RJ6, Cond.code yJ6_bitCount_0f7a4 cJ6_bitCount_0f7a4 1 (some .int), Cond.constant RJ6 265 (1431655765), Cond.constant RJ6 266 (858993459), Cond.constant RJ6 267 (252645135), Cond.methodLink RX2 45 yX2_carries, Cond.instanceMethod yX2_carries, Cond.selects RX2 yX2_carries yX2_carries, Cond.code yX2_carries cX2_carries 3 (some .boolean), Cond.fieldLink RX2 18 "HungryJury$Room" "panel" "LHungryJury$Panel;", Cond.fieldLink RX2 49 "HungryJury$Panel" "need" "I", Cond.methodLink RX2 56 yX2_growHungry, Cond.instanceMethod yX2_growHungry, Cond.selects RX2 yX2_growHungry yX2_growHungry, Cond.code yX2_growHungry cX2_growHungry 2 none, Cond.fieldLink RX2 66 "HungryJury$Panel" "kind" "[I", Cond.methodLink RX2 72 Lib.Math.min.name, Cond.static Lib.Math.min.name, Cond.initialized "java/lang/Math", Cond.code Lib.Math.min.name Lib.Math.min.code 2 (some .int), Cond.methodLink RX2 59 yX2_isThere, Cond.instanceMethod yX2_isThere]
def wsX5_assizes_r3 : List Cond := [Cond.selects RX2 yX2_isThere yX2_isThere, Cond.code yX2_isThere cX2_isThere 2 (some .boolean), Cond.methodLink RX2 69 yX2_hungerOfHour, Cond.instanceMethod yX2_hungerOfHour, Cond.selects RX2 yX2_hungerOfHour yX2_hungerOfHour, Cond.code yX2_hungerOfHour cX2_hungerOfHour 2 (some .int), Cond.methodLink RX2 63 yX2_mustGiveIn, Cond.instanceMethod yX2_mustGiveIn, Cond.selects RX2 yX2_mustGiveIn yX2_mustGiveIn, Cond.code yX2_mustGiveIn cX2_mustGiveIn 5 (some .boolean), Cond.fieldLink RX2 81 "HungryJury$Panel" "heeded" "[I", Cond.methodLink RX2 78 yX2_isYes, Cond.instanceMethod yX2_isYes, Cond.selects RX2 yX2_isYes yX2_isYes, Cond.code yX2_isYes cX2_isYes 2 (some .boolean), Cond.methodLink RX5 100 yX2_isThere, Cond.methodLink RX5 162 yX2_carryOut, Cond.instanceMethod yX2_carryOut, Cond.selects RX2 yX2_carryOut yX2_carryOut, Cond.code yX2_carryOut cX2_carryOut 3 none, Cond.methodLink RX2 87 Lib.Math.max.name, Cond.static Lib.Math.max.name, Cond.code Lib.Math.max.name Lib.Math.max.code 2 (some .int), Cond.methodLink RX2 84 yX2_passHour]
def wsX5_assizes_r4 : List Cond := [Cond.methodLink RX5 140 yX2_verdict]
def wsX5_assizes : List Cond := .code yX5_assizes cX5_assizes 5 (some .int) :: ((wsX5_assizes_r1 ++ (wsX5_assizes_r2 ++ (wsX5_assizes_r3 ++ wsX5_assizes_r4))) ++ wsX50 ++ wsX20 ++ wsX10)
def wsX5_keep : List Cond := .code yX5_keep cX5_keep 2 (some .int) :: ([.fieldLink RX5 45 "HungryJury" "slots" "[LHungryJury$Room;", .fieldLink RX5 31 "HungryJury" "now" "LHungryJury$Room;", .fieldLink RX5 49 "HungryJury" "isKept" "[Z", .fieldLink RX5 206 "HungryJury$Room" "theHour" "I", .methodLink RX5 131 yX2_copyFrom, .instanceMethod yX2_copyFrom, .selects RX2 yX2_copyFrom yX2_copyFrom, .initialized RX2, .code yX2_copyFrom cX2_copyFrom 3 none, .fieldLink RX2 28 "HungryJury$Room" "yes" "I", .fieldLink RX2 32 "HungryJury$Room" "there" "I", .fieldLink RX2 35 "HungryJury$Room" "theHour" "I", .fieldLink RX2 9 "HungryJury$Room" "stubborn" "[I", .fieldLink RX2 15 "HungryJury$Room" "hunger" "[I"] ++ wsX50 ++ wsX20)
def wsX5_again : List Cond := .code yX5_again cX5_again 2 (some .int) :: ([.fieldLink RX5 49 "HungryJury" "isKept" "[Z", .fieldLink RX5 31 "HungryJury" "now" "LHungryJury$Room;", .fieldLink RX5 45 "HungryJury" "slots" "[LHungryJury$Room;", .fieldLink RX5 41 "HungryJury" "acts" "LHungryJury$Acts;", .fieldLink RX5 206 "HungryJury$Room" "theHour" "I", .methodLink RX5 131 yX2_copyFrom, .instanceMethod yX2_copyFrom, .selects RX2 yX2_copyFrom yX2_copyFrom, .initialized RX2, .code yX2_copyFrom cX2_copyFrom 3 none, .fieldLink RX2 28 "HungryJury$Room" "yes" "I", .fieldLink RX2 32 "HungryJury$Room" "there" "I", .fieldLink RX2 35 "HungryJury$Room" "theHour" "I", .fieldLink RX2 9 "HungryJury$Room" "stubborn" "[I", .fieldLink RX2 15 "HungryJury$Room" "hunger" "[I", .methodLink RX5 75 yX0_forgetAll, .instanceMethod yX0_forgetAll, .selects RX0 yX0_forgetAll yX0_forgetAll, .initialized RX0, .code yX0_forgetAll cX0_forgetAll 1 none, .fieldLink RX0 20 "HungryJury$Acts" "size" "I"] ++ wsX50 ++ wsX20 ++ wsX00)
def wsX5_count_r1 : List Cond := [Cond.fieldLink RX5 12 "HungryJury" "text" "LHungryJury$Text;", Cond.fieldLink RX5 64 "HungryJury$Text" "length" "I", Cond.fieldLink RX5 19 "HungryJury" "panel" "LHungryJury$Panel;", Cond.fieldLink RX5 78 "HungryJury$Panel" "jurors" "I", Cond.fieldLink RX5 209 "HungryJury$Panel" "need" "I", Cond.fieldLink RX5 31 "HungryJury" "now" "LHungryJury$Room;", Cond.fieldLink RX5 206 "HungryJury$Room" "theHour" "I", Cond.fieldLink RX5 121 "HungryJury$Room" "there" "I", Cond.fieldLink RX5 41 "HungryJury" "acts" "LHungryJury$Acts;", Cond.fieldLink RX5 128 "HungryJury$Acts" "size" "I", Cond.fieldLink RX5 56 "HungryJury" "sights" "LHungryJury$Sights;", Cond.fieldLink RX5 169 "HungryJury$Sights" "size" "I", Cond.methodLink RX5 134 yX2_yesThere, Cond.instanceMethod yX2_yesThere, Cond.selects RX2 yX2_yesThere yX2_yesThere, Cond.initialized RX2, Cond.code yX2_yesThere cX2_yesThere 1 (some .int), Cond.fieldLink RX2 28 "HungryJury$Room" "yes" "I", Cond.fieldLink RX2 32 "HungryJury$Room" "there" "I", Cond.methodLink RX5 140 yX2_verdict, Cond.instanceMethod yX2_verdict, Cond.selects RX2 yX2_verdict yX2_verdict, Cond.code yX2_verdict cX2_verdict 3 (some .int), Cond.methodLink RX2 39 yJ6_bitCount_0f7a4]
def wsX5_count_r2 : List Cond := [Cond.static yJ6_bitCount_0f7a4, Cond.initialized RJ6, Cond.code yJ6_bitCount_0f7a4 cJ6_bitCount_0f7a4 1 (some .int), Cond.constant RJ6 265 (1431655765), Cond.constant RJ6 266 (858993459), Cond.constant RJ6 267 (252645135), Cond.methodLink RX2 45 yX2_carries, Cond.instanceMethod yX2_carries, Cond.selects RX2 yX2_carries yX2_carries, Cond.code yX2_carries cX2_carries 3 (some .boolean), Cond.fieldLink RX2 18 "HungryJury$Room" "panel" "LHungryJury$Panel;", Cond.fieldLink RX2 49 "HungryJury$Panel" "need" "I"]
def wsX5_count : List Cond := .code yX5_count cX5_count 2 (some .int) :: ((wsX5_count_r1 ++ wsX5_count_r2) ++ wsX50 ++ wsX40 ++ wsX10 ++ wsX20 ++ wsX00 ++ wsX30)
def wsX6_init : List Cond := .code yX6_init cX6_init 1 none :: ([.methodLink RX6 1 objectInit, .instanceMethod objectInit, .code objectInit ⟨#[0xb1]⟩ 1 none, .arrayClass .int, .fieldLink RX6 7 "HungryJuryModel" "kind" "[I", .fieldLink RX6 13 "HungryJuryModel" "heeds" "[I", .fieldLink RX6 16 "HungryJuryModel" "now" "[I", .fieldLink RX6 19 "HungryJuryModel" "readOf" "[I", .fieldLink RX6 22 "HungryJuryModel" "readHeeds" "[I", .fieldLink RX6 25 "HungryJuryModel" "text" "[I", .fieldLink RX6 28 "HungryJuryModel" "row" "[I", .fieldLink RX6 31 "HungryJuryModel" "seenOf" "[I", .fieldLink RX6 34 "HungryJuryModel" "seenBehind" "[I", .fieldLink RX6 37 "HungryJuryModel" "seenFor" "[I", .arrayClass .boolean, .fieldLink RX6 40 "HungryJuryModel" "isKept" "[Z", .fieldLink RX6 44 "HungryJuryModel" "kept" "[I", .fieldLink RX6 47 "HungryJuryModel" "need" "I"] ++ wsX60)
def wsX6_in : List Cond := .code yX6_in cX6_in 6 (some .boolean) :: ([])
def wsX6_has : List Cond := .code yX6_has cX6_has 2 (some .boolean) :: ([])
def wsX6_ones : List Cond := .code yX6_ones cX6_ones 3 (some .int) :: ([])
def wsX6_write : List Cond := .code yX6_write cX6_write 2 (some .int) :: ([.constantLong RX6 51 (255), .fieldLink RX6 57 "HungryJuryModel" "length" "I", .fieldLink RX6 25 "HungryJuryModel" "text" "[I", .methodLink RX6 53 yX6_in, .static yX6_in, .initialized RX6, .code yX6_in cX6_in 6 (some .boolean)] ++ wsX60)
def wsX6_wipe : List Cond := .code yX6_wipe cX6_wipe 2 (some .int) :: ([.fieldLink RX6 57 "HungryJuryModel" "length" "I"] ++ wsX60)
def wsX6_figureOf : List Cond := .code yX6_figureOf cX6_figureOf 3 (some .int) :: ([.fieldLink RX6 60 "HungryJuryModel" "faultAt" "I", .fieldLink RX6 63 "HungryJuryModel" "at" "I", .fieldLink RX6 57 "HungryJuryModel" "length" "I", .fieldLink RX6 25 "HungryJuryModel" "text" "[I", .constantLong RX6 66 (9), .methodLink RX6 53 yX6_in, .static yX6_in, .initialized RX6, .code yX6_in cX6_in 6 (some .boolean), .methodLink RX6 68 yX6_has, .static yX6_has, .code yX6_has cX6_has 2 (some .boolean)] ++ wsX60)
def wsX6_left : List Cond := .code yX6_left cX6_left 2 (some .int) :: ([.fieldLink RX6 72 "HungryJuryModel" "readJurors" "I", .fieldLink RX6 22 "HungryJuryModel" "readHeeds" "[I"] ++ wsX60)
def wsX6_firstsLeft : List Cond := .code yX6_firstsLeft cX6_firstsLeft 3 (some .int) :: ([.fieldLink RX6 72 "HungryJuryModel" "readJurors" "I", .methodLink RX6 75 yX6_left, .instanceMethod yX6_left, .selects RX6 yX6_left yX6_left, .initialized RX6, .code yX6_left cX6_left 2 (some .int), .fieldLink RX6 22 "HungryJuryModel" "readHeeds" "[I"] ++ wsX60)
def wsX6_readPart_r1 : List Cond := [Cond.fieldLink RX6 72 "HungryJuryModel" "readJurors" "I", Cond.fieldLink RX6 63 "HungryJuryModel" "at" "I", Cond.fieldLink RX6 19 "HungryJuryModel" "readOf" "[I", Cond.fieldLink RX6 22 "HungryJuryModel" "readHeeds" "[I", Cond.fieldLink RX6 60 "HungryJuryModel" "faultAt" "I", Cond.methodLink RX6 79 yX6_figureOf, Cond.instanceMethod yX6_figureOf, Cond.selects RX6 yX6_figureOf yX6_figureOf, Cond.initialized RX6, Cond.code yX6_figureOf cX6_figureOf 3 (some .int), Cond.fieldLink RX6 57 "HungryJuryModel" "length" "I", Cond.fieldLink RX6 25 "HungryJuryModel" "text" "[I", Cond.constantLong RX6 66 (9), Cond.methodLink RX6 53 yX6_in, Cond.static yX6_in, Cond.code yX6_in cX6_in 6 (some .boolean), Cond.methodLink RX6 68 yX6_has, Cond.static yX6_has, Cond.code yX6_has cX6_has 2 (some .boolean), Cond.methodLink RX6 89 yX6_firstsLeft, Cond.instanceMethod yX6_firstsLeft, Cond.selects RX6 yX6_firstsLeft yX6_firstsLeft, Cond.code yX6_firstsLeft cX6_firstsLeft 3 (some .int), Cond.methodLink RX6 75 yX6_left]
def wsX6_readPart_r2 : List Cond := [Cond.instanceMethod yX6_left, Cond.selects RX6 yX6_left yX6_left, Cond.code yX6_left cX6_left 2 (some .int)]
def wsX6_readPart : List Cond := .code yX6_readPart cX6_readPart 4 none :: ((wsX6_readPart_r1 ++ wsX6_readPart_r2) ++ wsX60)
def wsX6_readText_r1 : List Cond := [Cond.fieldLink RX6 63 "HungryJuryModel" "at" "I", Cond.fieldLink RX6 60 "HungryJuryModel" "faultAt" "I", Cond.fieldLink RX6 72 "HungryJuryModel" "readJurors" "I", Cond.fieldLink RX6 22 "HungryJuryModel" "readHeeds" "[I", Cond.fieldLink RX6 57 "HungryJuryModel" "length" "I", Cond.fieldLink RX6 25 "HungryJuryModel" "text" "[I", Cond.fieldLink RX6 82 "HungryJuryModel" "readNeed" "I", Cond.methodLink RX6 79 yX6_figureOf, Cond.instanceMethod yX6_figureOf, Cond.selects RX6 yX6_figureOf yX6_figureOf, Cond.initialized RX6, Cond.code yX6_figureOf cX6_figureOf 3 (some .int), Cond.constantLong RX6 66 (9), Cond.methodLink RX6 53 yX6_in, Cond.static yX6_in, Cond.code yX6_in cX6_in 6 (some .boolean), Cond.methodLink RX6 68 yX6_has, Cond.static yX6_has, Cond.code yX6_has cX6_has 2 (some .boolean), Cond.methodLink RX6 85 yX6_readPart, Cond.instanceMethod yX6_readPart, Cond.selects RX6 yX6_readPart yX6_readPart, Cond.code yX6_readPart cX6_readPart 4 none, Cond.fieldLink RX6 19 "HungryJuryModel" "readOf" "[I"]
def wsX6_readText_r2 : List Cond := [Cond.methodLink RX6 89 yX6_firstsLeft, Cond.instanceMethod yX6_firstsLeft, Cond.selects RX6 yX6_firstsLeft yX6_firstsLeft, Cond.code yX6_firstsLeft cX6_firstsLeft 3 (some .int), Cond.methodLink RX6 75 yX6_left, Cond.instanceMethod yX6_left, Cond.selects RX6 yX6_left yX6_left, Cond.code yX6_left cX6_left 2 (some .int)]
def wsX6_readText : List Cond := .code yX6_readText cX6_readText 2 (some .int) :: ((wsX6_readText_r1 ++ wsX6_readText_r2) ++ wsX60)
def wsX6_fault_r1 : List Cond := [Cond.methodLink RX6 93 yX6_readText, Cond.instanceMethod yX6_readText, Cond.selects RX6 yX6_readText yX6_readText, Cond.initialized RX6, Cond.code yX6_readText cX6_readText 2 (some .int), Cond.fieldLink RX6 63 "HungryJuryModel" "at" "I", Cond.fieldLink RX6 60 "HungryJuryModel" "faultAt" "I", Cond.fieldLink RX6 72 "HungryJuryModel" "readJurors" "I", Cond.fieldLink RX6 22 "HungryJuryModel" "readHeeds" "[I", Cond.fieldLink RX6 57 "HungryJuryModel" "length" "I", Cond.fieldLink RX6 25 "HungryJuryModel" "text" "[I", Cond.fieldLink RX6 82 "HungryJuryModel" "readNeed" "I", Cond.methodLink RX6 79 yX6_figureOf, Cond.instanceMethod yX6_figureOf, Cond.selects RX6 yX6_figureOf yX6_figureOf, Cond.code yX6_figureOf cX6_figureOf 3 (some .int), Cond.constantLong RX6 66 (9), Cond.methodLink RX6 53 yX6_in, Cond.static yX6_in, Cond.code yX6_in cX6_in 6 (some .boolean), Cond.methodLink RX6 68 yX6_has, Cond.static yX6_has, Cond.code yX6_has cX6_has 2 (some .boolean), Cond.methodLink RX6 85 yX6_readPart]
def wsX6_fault_r2 : List Cond := [Cond.instanceMethod yX6_readPart, Cond.selects RX6 yX6_readPart yX6_readPart, Cond.code yX6_readPart cX6_readPart 4 none, Cond.fieldLink RX6 19 "HungryJuryModel" "readOf" "[I", Cond.methodLink RX6 89 yX6_firstsLeft, Cond.instanceMethod yX6_firstsLeft, Cond.selects RX6 yX6_firstsLeft yX6_firstsLeft, Cond.code yX6_firstsLeft cX6_firstsLeft 3 (some .int), Cond.methodLink RX6 75 yX6_left, Cond.instanceMethod yX6_left, Cond.selects RX6 yX6_left yX6_left, Cond.code yX6_left cX6_left 2 (some .int)]
def wsX6_fault : List Cond := .code yX6_fault cX6_fault 1 (some .int) :: ((wsX6_fault_r1 ++ wsX6_fault_r2) ++ wsX60)
def wsX6_jury_r1 : List Cond := [Cond.fieldLink RX6 72 "HungryJuryModel" "readJurors" "I", Cond.fieldLink RX6 96 "HungryJuryModel" "jurors" "I", Cond.fieldLink RX6 82 "HungryJuryModel" "readNeed" "I", Cond.fieldLink RX6 47 "HungryJuryModel" "need" "I", Cond.fieldLink RX6 16 "HungryJuryModel" "now" "[I", Cond.fieldLink RX6 19 "HungryJuryModel" "readOf" "[I", Cond.fieldLink RX6 7 "HungryJuryModel" "kind" "[I", Cond.fieldLink RX6 13 "HungryJuryModel" "heeds" "[I", Cond.fieldLink RX6 22 "HungryJuryModel" "readHeeds" "[I", Cond.fieldLink RX6 99 "HungryJuryModel" "acts" "I", Cond.fieldLink RX6 40 "HungryJuryModel" "isKept" "[Z", Cond.methodLink RX6 93 yX6_readText, Cond.instanceMethod yX6_readText, Cond.selects RX6 yX6_readText yX6_readText, Cond.initialized RX6, Cond.code yX6_readText cX6_readText 2 (some .int), Cond.fieldLink RX6 63 "HungryJuryModel" "at" "I", Cond.fieldLink RX6 60 "HungryJuryModel" "faultAt" "I", Cond.fieldLink RX6 57 "HungryJuryModel" "length" "I", Cond.fieldLink RX6 25 "HungryJuryModel" "text" "[I", Cond.methodLink RX6 79 yX6_figureOf, Cond.instanceMethod yX6_figureOf, Cond.selects RX6 yX6_figureOf yX6_figureOf, Cond.code yX6_figureOf cX6_figureOf 3 (some .int)]
def wsX6_jury_r2 : List Cond := [Cond.constantLong RX6 66 (9), Cond.methodLink RX6 53 yX6_in, Cond.static yX6_in, Cond.code yX6_in cX6_in 6 (some .boolean), Cond.methodLink RX6 68 yX6_has, Cond.static yX6_has, Cond.code yX6_has cX6_has 2 (some .boolean), Cond.methodLink RX6 85 yX6_readPart, Cond.instanceMethod yX6_readPart, Cond.selects RX6 yX6_readPart yX6_readPart, Cond.code yX6_readPart cX6_readPart 4 none, Cond.methodLink RX6 89 yX6_firstsLeft, Cond.instanceMethod yX6_firstsLeft, Cond.selects RX6 yX6_firstsLeft yX6_firstsLeft, Cond.code yX6_firstsLeft cX6_firstsLeft 3 (some .int), Cond.methodLink RX6 75 yX6_left, Cond.instanceMethod yX6_left, Cond.selects RX6 yX6_left yX6_left, Cond.code yX6_left cX6_left 2 (some .int)]
def wsX6_jury : List Cond := .code yX6_jury cX6_jury 2 (some .int) :: ((wsX6_jury_r1 ++ wsX6_jury_r2) ++ wsX60)
def wsX6_isJuror : List Cond := .code yX6_isJuror cX6_isJuror 2 (some .boolean) :: ([.fieldLink RX6 96 "HungryJuryModel" "jurors" "I", .methodLink RX6 53 yX6_in, .static yX6_in, .initialized RX6, .code yX6_in cX6_in 6 (some .boolean)] ++ wsX60)
def wsX6_isThere : List Cond := .code yX6_isThere cX6_isThere 3 (some .boolean) :: ([.fieldLink RX6 16 "HungryJuryModel" "now" "[I", .methodLink RX6 68 yX6_has, .static yX6_has, .initialized RX6, .code yX6_has cX6_has 2 (some .boolean)] ++ wsX60)
def wsX6_verdict : List Cond := .code yX6_verdict cX6_verdict 5 (some .int) :: ([.fieldLink RX6 16 "HungryJuryModel" "now" "[I", .fieldLink RX6 47 "HungryJuryModel" "need" "I", .methodLink RX6 102 yX6_ones, .static yX6_ones, .initialized RX6, .code yX6_ones cX6_ones 3 (some .int)] ++ wsX60)
def wsX6_hungerOn : List Cond := .code yX6_hungerOn cX6_hungerOn 6 none :: ([.fieldLink RX6 7 "HungryJuryModel" "kind" "[I", .fieldLink RX6 16 "HungryJuryModel" "now" "[I"] ++ wsX60)
def wsX6_givesIn : List Cond := .code yX6_givesIn cX6_givesIn 10 (some .boolean) :: ([.fieldLink RX6 16 "HungryJuryModel" "now" "[I", .fieldLink RX6 7 "HungryJuryModel" "kind" "[I", .fieldLink RX6 13 "HungryJuryModel" "heeds" "[I", .methodLink RX6 68 yX6_has, .static yX6_has, .initialized RX6, .code yX6_has cX6_has 2 (some .boolean), .methodLink RX6 102 yX6_ones, .static yX6_ones, .code yX6_ones cX6_ones 3 (some .int)] ++ wsX60)
def wsX6_passOn_r1 : List Cond := [Cond.fieldLink RX6 16 "HungryJuryModel" "now" "[I", Cond.fieldLink RX6 96 "HungryJuryModel" "jurors" "I", Cond.methodLink RX6 105 yX6_verdict, Cond.instanceMethod yX6_verdict, Cond.selects RX6 yX6_verdict yX6_verdict, Cond.initialized RX6, Cond.code yX6_verdict cX6_verdict 5 (some .int), Cond.fieldLink RX6 47 "HungryJuryModel" "need" "I", Cond.methodLink RX6 102 yX6_ones, Cond.static yX6_ones, Cond.code yX6_ones cX6_ones 3 (some .int), Cond.methodLink RX6 108 yX6_isThere, Cond.instanceMethod yX6_isThere, Cond.selects RX6 yX6_isThere yX6_isThere, Cond.code yX6_isThere cX6_isThere 3 (some .boolean), Cond.methodLink RX6 68 yX6_has, Cond.static yX6_has, Cond.code yX6_has cX6_has 2 (some .boolean), Cond.methodLink RX6 111 yX6_hungerOn, Cond.instanceMethod yX6_hungerOn, Cond.selects RX6 yX6_hungerOn yX6_hungerOn, Cond.code yX6_hungerOn cX6_hungerOn 6 none, Cond.fieldLink RX6 7 "HungryJuryModel" "kind" "[I", Cond.methodLink RX6 115 yX6_givesIn]
def wsX6_passOn_r2 : List Cond := [Cond.instanceMethod yX6_givesIn, Cond.selects RX6 yX6_givesIn yX6_givesIn, Cond.code yX6_givesIn cX6_givesIn 10 (some .boolean), Cond.fieldLink RX6 13 "HungryJuryModel" "heeds" "[I"]
def wsX6_passOn : List Cond := .code yX6_passOn cX6_passOn 5 (some .int) :: ((wsX6_passOn_r1 ++ wsX6_passOn_r2) ++ wsX60)
def wsX6_juror : List Cond := .code yX6_juror cX6_juror 3 (some .int) :: ([.fieldLink RX6 16 "HungryJuryModel" "now" "[I", .fieldLink RX6 7 "HungryJuryModel" "kind" "[I", .fieldLink RX6 13 "HungryJuryModel" "heeds" "[I", .methodLink RX6 118 yX6_isJuror, .instanceMethod yX6_isJuror, .selects RX6 yX6_isJuror yX6_isJuror, .initialized RX6, .code yX6_isJuror cX6_isJuror 2 (some .boolean), .fieldLink RX6 96 "HungryJuryModel" "jurors" "I", .methodLink RX6 53 yX6_in, .static yX6_in, .code yX6_in cX6_in 6 (some .boolean)] ++ wsX60)
def wsX6_keepAct : List Cond := .code yX6_keepAct cX6_keepAct 2 none :: ([.fieldLink RX6 28 "HungryJuryModel" "row" "[I", .fieldLink RX6 122 "HungryJuryModel" "next" "I", .fieldLink RX6 16 "HungryJuryModel" "now" "[I", .fieldLink RX6 99 "HungryJuryModel" "acts" "I"] ++ wsX60)
def wsX6_hour_r1 : List Cond := [Cond.methodLink RX6 125 yX6_keepAct, Cond.instanceMethod yX6_keepAct, Cond.selects RX6 yX6_keepAct yX6_keepAct, Cond.initialized RX6, Cond.code yX6_keepAct cX6_keepAct 2 none, Cond.fieldLink RX6 28 "HungryJuryModel" "row" "[I", Cond.fieldLink RX6 122 "HungryJuryModel" "next" "I", Cond.fieldLink RX6 16 "HungryJuryModel" "now" "[I", Cond.fieldLink RX6 99 "HungryJuryModel" "acts" "I", Cond.methodLink RX6 128 yX6_passOn, Cond.instanceMethod yX6_passOn, Cond.selects RX6 yX6_passOn yX6_passOn, Cond.code yX6_passOn cX6_passOn 5 (some .int), Cond.fieldLink RX6 96 "HungryJuryModel" "jurors" "I", Cond.methodLink RX6 105 yX6_verdict, Cond.instanceMethod yX6_verdict, Cond.selects RX6 yX6_verdict yX6_verdict, Cond.code yX6_verdict cX6_verdict 5 (some .int), Cond.fieldLink RX6 47 "HungryJuryModel" "need" "I", Cond.methodLink RX6 102 yX6_ones, Cond.static yX6_ones, Cond.code yX6_ones cX6_ones 3 (some .int), Cond.methodLink RX6 108 yX6_isThere, Cond.instanceMethod yX6_isThere]
def wsX6_hour_r2 : List Cond := [Cond.selects RX6 yX6_isThere yX6_isThere, Cond.code yX6_isThere cX6_isThere 3 (some .boolean), Cond.methodLink RX6 68 yX6_has, Cond.static yX6_has, Cond.code yX6_has cX6_has 2 (some .boolean), Cond.methodLink RX6 111 yX6_hungerOn, Cond.instanceMethod yX6_hungerOn, Cond.selects RX6 yX6_hungerOn yX6_hungerOn, Cond.code yX6_hungerOn cX6_hungerOn 6 none, Cond.fieldLink RX6 7 "HungryJuryModel" "kind" "[I", Cond.methodLink RX6 115 yX6_givesIn, Cond.instanceMethod yX6_givesIn, Cond.selects RX6 yX6_givesIn yX6_givesIn, Cond.code yX6_givesIn cX6_givesIn 10 (some .boolean), Cond.fieldLink RX6 13 "HungryJuryModel" "heeds" "[I"]
def wsX6_hour : List Cond := .code yX6_hour cX6_hour 1 (some .int) :: ((wsX6_hour_r1 ++ wsX6_hour_r2) ++ wsX60)
def wsX6_canArgue : List Cond := .code yX6_canArgue cX6_canArgue 3 (some .boolean) :: ([.fieldLink RX6 16 "HungryJuryModel" "now" "[I", .methodLink RX6 108 yX6_isThere, .instanceMethod yX6_isThere, .selects RX6 yX6_isThere yX6_isThere, .initialized RX6, .code yX6_isThere cX6_isThere 3 (some .boolean), .methodLink RX6 68 yX6_has, .static yX6_has, .code yX6_has cX6_has 2 (some .boolean)] ++ wsX60)
def wsX6_argue_r1 : List Cond := [Cond.fieldLink RX6 16 "HungryJuryModel" "now" "[I", Cond.methodLink RX6 118 yX6_isJuror, Cond.instanceMethod yX6_isJuror, Cond.selects RX6 yX6_isJuror yX6_isJuror, Cond.initialized RX6, Cond.code yX6_isJuror cX6_isJuror 2 (some .boolean), Cond.fieldLink RX6 96 "HungryJuryModel" "jurors" "I", Cond.methodLink RX6 53 yX6_in, Cond.static yX6_in, Cond.code yX6_in cX6_in 6 (some .boolean), Cond.methodLink RX6 131 yX6_canArgue, Cond.instanceMethod yX6_canArgue, Cond.selects RX6 yX6_canArgue yX6_canArgue, Cond.code yX6_canArgue cX6_canArgue 3 (some .boolean), Cond.methodLink RX6 108 yX6_isThere, Cond.instanceMethod yX6_isThere, Cond.selects RX6 yX6_isThere yX6_isThere, Cond.code yX6_isThere cX6_isThere 3 (some .boolean), Cond.methodLink RX6 68 yX6_has, Cond.static yX6_has, Cond.code yX6_has cX6_has 2 (some .boolean), Cond.methodLink RX6 125 yX6_keepAct, Cond.instanceMethod yX6_keepAct, Cond.selects RX6 yX6_keepAct yX6_keepAct]
def wsX6_argue_r2 : List Cond := [Cond.code yX6_keepAct cX6_keepAct 2 none, Cond.fieldLink RX6 28 "HungryJuryModel" "row" "[I", Cond.fieldLink RX6 122 "HungryJuryModel" "next" "I", Cond.fieldLink RX6 99 "HungryJuryModel" "acts" "I"]
def wsX6_argue : List Cond := .code yX6_argue cX6_argue 2 (some .int) :: ((wsX6_argue_r1 ++ wsX6_argue_r2) ++ wsX60)
def wsX6_canFeed : List Cond := .code yX6_canFeed cX6_canFeed 3 (some .boolean) :: ([.fieldLink RX6 16 "HungryJuryModel" "now" "[I", .methodLink RX6 108 yX6_isThere, .instanceMethod yX6_isThere, .selects RX6 yX6_isThere yX6_isThere, .initialized RX6, .code yX6_isThere cX6_isThere 3 (some .boolean), .methodLink RX6 68 yX6_has, .static yX6_has, .code yX6_has cX6_has 2 (some .boolean)] ++ wsX60)
def wsX6_feed_r1 : List Cond := [Cond.fieldLink RX6 16 "HungryJuryModel" "now" "[I", Cond.methodLink RX6 118 yX6_isJuror, Cond.instanceMethod yX6_isJuror, Cond.selects RX6 yX6_isJuror yX6_isJuror, Cond.initialized RX6, Cond.code yX6_isJuror cX6_isJuror 2 (some .boolean), Cond.fieldLink RX6 96 "HungryJuryModel" "jurors" "I", Cond.methodLink RX6 53 yX6_in, Cond.static yX6_in, Cond.code yX6_in cX6_in 6 (some .boolean), Cond.methodLink RX6 134 yX6_canFeed, Cond.instanceMethod yX6_canFeed, Cond.selects RX6 yX6_canFeed yX6_canFeed, Cond.code yX6_canFeed cX6_canFeed 3 (some .boolean), Cond.methodLink RX6 108 yX6_isThere, Cond.instanceMethod yX6_isThere, Cond.selects RX6 yX6_isThere yX6_isThere, Cond.code yX6_isThere cX6_isThere 3 (some .boolean), Cond.methodLink RX6 68 yX6_has, Cond.static yX6_has, Cond.code yX6_has cX6_has 2 (some .boolean), Cond.methodLink RX6 125 yX6_keepAct, Cond.instanceMethod yX6_keepAct, Cond.selects RX6 yX6_keepAct yX6_keepAct]
def wsX6_feed_r2 : List Cond := [Cond.code yX6_keepAct cX6_keepAct 2 none, Cond.fieldLink RX6 28 "HungryJuryModel" "row" "[I", Cond.fieldLink RX6 122 "HungryJuryModel" "next" "I", Cond.fieldLink RX6 99 "HungryJuryModel" "acts" "I"]
def wsX6_feed : List Cond := .code yX6_feed cX6_feed 3 (some .int) :: ((wsX6_feed_r1 ++ wsX6_feed_r2) ++ wsX60)
def wsX6_dieOn : List Cond := .code yX6_dieOn cX6_dieOn 3 none :: ([.fieldLink RX6 16 "HungryJuryModel" "now" "[I"] ++ wsX60)
def wsX6_die_r1 : List Cond := [Cond.fieldLink RX6 16 "HungryJuryModel" "now" "[I", Cond.methodLink RX6 118 yX6_isJuror, Cond.instanceMethod yX6_isJuror, Cond.selects RX6 yX6_isJuror yX6_isJuror, Cond.initialized RX6, Cond.code yX6_isJuror cX6_isJuror 2 (some .boolean), Cond.fieldLink RX6 96 "HungryJuryModel" "jurors" "I", Cond.methodLink RX6 53 yX6_in, Cond.static yX6_in, Cond.code yX6_in cX6_in 6 (some .boolean), Cond.methodLink RX6 108 yX6_isThere, Cond.instanceMethod yX6_isThere, Cond.selects RX6 yX6_isThere yX6_isThere, Cond.code yX6_isThere cX6_isThere 3 (some .boolean), Cond.methodLink RX6 68 yX6_has, Cond.static yX6_has, Cond.code yX6_has cX6_has 2 (some .boolean), Cond.methodLink RX6 125 yX6_keepAct, Cond.instanceMethod yX6_keepAct, Cond.selects RX6 yX6_keepAct yX6_keepAct, Cond.code yX6_keepAct cX6_keepAct 2 none, Cond.fieldLink RX6 28 "HungryJuryModel" "row" "[I", Cond.fieldLink RX6 122 "HungryJuryModel" "next" "I", Cond.fieldLink RX6 99 "HungryJuryModel" "acts" "I"]
def wsX6_die_r2 : List Cond := [Cond.methodLink RX6 137 yX6_dieOn, Cond.instanceMethod yX6_dieOn, Cond.selects RX6 yX6_dieOn yX6_dieOn, Cond.code yX6_dieOn cX6_dieOn 3 none, Cond.methodLink RX6 102 yX6_ones, Cond.static yX6_ones, Cond.code yX6_ones cX6_ones 3 (some .int)]
def wsX6_die : List Cond := .code yX6_die cX6_die 2 (some .int) :: ((wsX6_die_r1 ++ wsX6_die_r2) ++ wsX60)
def wsX6_toss : List Cond := .code yX6_toss cX6_toss 2 (some .int) :: ([.fieldLink RX6 16 "HungryJuryModel" "now" "[I", .methodLink RX6 118 yX6_isJuror, .instanceMethod yX6_isJuror, .selects RX6 yX6_isJuror yX6_isJuror, .initialized RX6, .code yX6_isJuror cX6_isJuror 2 (some .boolean), .fieldLink RX6 96 "HungryJuryModel" "jurors" "I", .methodLink RX6 53 yX6_in, .static yX6_in, .code yX6_in cX6_in 6 (some .boolean), .methodLink RX6 108 yX6_isThere, .instanceMethod yX6_isThere, .selects RX6 yX6_isThere yX6_isThere, .code yX6_isThere cX6_isThere 3 (some .boolean), .methodLink RX6 68 yX6_has, .static yX6_has, .code yX6_has cX6_has 2 (some .boolean), .methodLink RX6 125 yX6_keepAct, .instanceMethod yX6_keepAct, .selects RX6 yX6_keepAct yX6_keepAct, .code yX6_keepAct cX6_keepAct 2 none, .fieldLink RX6 28 "HungryJuryModel" "row" "[I", .fieldLink RX6 122 "HungryJuryModel" "next" "I", .fieldLink RX6 99 "HungryJuryModel" "acts" "I"] ++ wsX60)
def wsX6_undo : List Cond := .code yX6_undo cX6_undo 2 (some .int) :: ([.fieldLink RX6 99 "HungryJuryModel" "acts" "I", .fieldLink RX6 122 "HungryJuryModel" "next" "I", .fieldLink RX6 16 "HungryJuryModel" "now" "[I", .fieldLink RX6 28 "HungryJuryModel" "row" "[I"] ++ wsX60)
def wsX6_layTrial : List Cond := .code yX6_layTrial cX6_layTrial 2 none :: ([.fieldLink RX6 16 "HungryJuryModel" "now" "[I"] ++ wsX60)
def wsX6_ahead_r1 : List Cond := [Cond.constantLong RX6 66 (9), Cond.fieldLink RX6 16 "HungryJuryModel" "now" "[I", Cond.methodLink RX6 53 yX6_in, Cond.static yX6_in, Cond.initialized RX6, Cond.code yX6_in cX6_in 6 (some .boolean), Cond.methodLink RX6 140 yX6_layTrial, Cond.instanceMethod yX6_layTrial, Cond.selects RX6 yX6_layTrial yX6_layTrial, Cond.code yX6_layTrial cX6_layTrial 2 none, Cond.methodLink RX6 128 yX6_passOn, Cond.instanceMethod yX6_passOn, Cond.selects RX6 yX6_passOn yX6_passOn, Cond.code yX6_passOn cX6_passOn 5 (some .int), Cond.fieldLink RX6 96 "HungryJuryModel" "jurors" "I", Cond.methodLink RX6 105 yX6_verdict, Cond.instanceMethod yX6_verdict, Cond.selects RX6 yX6_verdict yX6_verdict, Cond.code yX6_verdict cX6_verdict 5 (some .int), Cond.fieldLink RX6 47 "HungryJuryModel" "need" "I", Cond.methodLink RX6 102 yX6_ones, Cond.static yX6_ones, Cond.code yX6_ones cX6_ones 3 (some .int), Cond.methodLink RX6 108 yX6_isThere]
def wsX6_ahead_r2 : List Cond := [Cond.instanceMethod yX6_isThere, Cond.selects RX6 yX6_isThere yX6_isThere, Cond.code yX6_isThere cX6_isThere 3 (some .boolean), Cond.methodLink RX6 68 yX6_has, Cond.static yX6_has, Cond.code yX6_has cX6_has 2 (some .boolean), Cond.methodLink RX6 111 yX6_hungerOn, Cond.instanceMethod yX6_hungerOn, Cond.selects RX6 yX6_hungerOn yX6_hungerOn, Cond.code yX6_hungerOn cX6_hungerOn 6 none, Cond.fieldLink RX6 7 "HungryJuryModel" "kind" "[I", Cond.methodLink RX6 115 yX6_givesIn, Cond.instanceMethod yX6_givesIn, Cond.selects RX6 yX6_givesIn yX6_givesIn, Cond.code yX6_givesIn cX6_givesIn 10 (some .boolean), Cond.fieldLink RX6 13 "HungryJuryModel" "heeds" "[I"]
def wsX6_ahead : List Cond := .code yX6_ahead cX6_ahead 3 (some .int) :: ((wsX6_ahead_r1 ++ wsX6_ahead_r2) ++ wsX60)
def wsX6_runTrial_r1 : List Cond := [Cond.fieldLink RX6 143 "HungryJuryModel" "endIn" "I", Cond.methodLink RX6 105 yX6_verdict, Cond.instanceMethod yX6_verdict, Cond.selects RX6 yX6_verdict yX6_verdict, Cond.initialized RX6, Cond.code yX6_verdict cX6_verdict 5 (some .int), Cond.fieldLink RX6 16 "HungryJuryModel" "now" "[I", Cond.fieldLink RX6 47 "HungryJuryModel" "need" "I", Cond.methodLink RX6 102 yX6_ones, Cond.static yX6_ones, Cond.code yX6_ones cX6_ones 3 (some .int), Cond.methodLink RX6 128 yX6_passOn, Cond.instanceMethod yX6_passOn, Cond.selects RX6 yX6_passOn yX6_passOn, Cond.code yX6_passOn cX6_passOn 5 (some .int), Cond.fieldLink RX6 96 "HungryJuryModel" "jurors" "I", Cond.methodLink RX6 108 yX6_isThere, Cond.instanceMethod yX6_isThere, Cond.selects RX6 yX6_isThere yX6_isThere, Cond.code yX6_isThere cX6_isThere 3 (some .boolean), Cond.methodLink RX6 68 yX6_has, Cond.static yX6_has, Cond.code yX6_has cX6_has 2 (some .boolean), Cond.methodLink RX6 111 yX6_hungerOn]
def wsX6_runTrial_r2 : List Cond := [Cond.instanceMethod yX6_hungerOn, Cond.selects RX6 yX6_hungerOn yX6_hungerOn, Cond.code yX6_hungerOn cX6_hungerOn 6 none, Cond.fieldLink RX6 7 "HungryJuryModel" "kind" "[I", Cond.methodLink RX6 115 yX6_givesIn, Cond.instanceMethod yX6_givesIn, Cond.selects RX6 yX6_givesIn yX6_givesIn, Cond.code yX6_givesIn cX6_givesIn 10 (some .boolean), Cond.fieldLink RX6 13 "HungryJuryModel" "heeds" "[I"]
def wsX6_runTrial : List Cond := .code yX6_runTrial cX6_runTrial 2 (some .int) :: ((wsX6_runTrial_r1 ++ wsX6_runTrial_r2) ++ wsX60)
def wsX6_end_r1 : List Cond := [Cond.fieldLink RX6 143 "HungryJuryModel" "endIn" "I", Cond.methodLink RX6 53 yX6_in, Cond.static yX6_in, Cond.initialized RX6, Cond.code yX6_in cX6_in 6 (some .boolean), Cond.methodLink RX6 140 yX6_layTrial, Cond.instanceMethod yX6_layTrial, Cond.selects RX6 yX6_layTrial yX6_layTrial, Cond.code yX6_layTrial cX6_layTrial 2 none, Cond.fieldLink RX6 16 "HungryJuryModel" "now" "[I", Cond.methodLink RX6 146 yX6_runTrial, Cond.instanceMethod yX6_runTrial, Cond.selects RX6 yX6_runTrial yX6_runTrial, Cond.code yX6_runTrial cX6_runTrial 2 (some .int), Cond.methodLink RX6 105 yX6_verdict, Cond.instanceMethod yX6_verdict, Cond.selects RX6 yX6_verdict yX6_verdict, Cond.code yX6_verdict cX6_verdict 5 (some .int), Cond.fieldLink RX6 47 "HungryJuryModel" "need" "I", Cond.methodLink RX6 102 yX6_ones, Cond.static yX6_ones, Cond.code yX6_ones cX6_ones 3 (some .int), Cond.methodLink RX6 128 yX6_passOn, Cond.instanceMethod yX6_passOn]
def wsX6_end_r2 : List Cond := [Cond.selects RX6 yX6_passOn yX6_passOn, Cond.code yX6_passOn cX6_passOn 5 (some .int), Cond.fieldLink RX6 96 "HungryJuryModel" "jurors" "I", Cond.methodLink RX6 108 yX6_isThere, Cond.instanceMethod yX6_isThere, Cond.selects RX6 yX6_isThere yX6_isThere, Cond.code yX6_isThere cX6_isThere 3 (some .boolean), Cond.methodLink RX6 68 yX6_has, Cond.static yX6_has, Cond.code yX6_has cX6_has 2 (some .boolean), Cond.methodLink RX6 111 yX6_hungerOn, Cond.instanceMethod yX6_hungerOn, Cond.selects RX6 yX6_hungerOn yX6_hungerOn, Cond.code yX6_hungerOn cX6_hungerOn 6 none, Cond.fieldLink RX6 7 "HungryJuryModel" "kind" "[I", Cond.methodLink RX6 115 yX6_givesIn, Cond.instanceMethod yX6_givesIn, Cond.selects RX6 yX6_givesIn yX6_givesIn, Cond.code yX6_givesIn cX6_givesIn 10 (some .boolean), Cond.fieldLink RX6 13 "HungryJuryModel" "heeds" "[I"]
def wsX6_end : List Cond := .code yX6_end cX6_end 3 (some .int) :: ((wsX6_end_r1 ++ wsX6_end_r2) ++ wsX60)
def wsX6_gives_r1 : List Cond := [Cond.fieldLink RX6 16 "HungryJuryModel" "now" "[I", Cond.methodLink RX6 118 yX6_isJuror, Cond.instanceMethod yX6_isJuror, Cond.selects RX6 yX6_isJuror yX6_isJuror, Cond.initialized RX6, Cond.code yX6_isJuror cX6_isJuror 2 (some .boolean), Cond.fieldLink RX6 96 "HungryJuryModel" "jurors" "I", Cond.methodLink RX6 53 yX6_in, Cond.static yX6_in, Cond.code yX6_in cX6_in 6 (some .boolean), Cond.methodLink RX6 108 yX6_isThere, Cond.instanceMethod yX6_isThere, Cond.selects RX6 yX6_isThere yX6_isThere, Cond.code yX6_isThere cX6_isThere 3 (some .boolean), Cond.methodLink RX6 68 yX6_has, Cond.static yX6_has, Cond.code yX6_has cX6_has 2 (some .boolean), Cond.methodLink RX6 140 yX6_layTrial, Cond.instanceMethod yX6_layTrial, Cond.selects RX6 yX6_layTrial yX6_layTrial, Cond.code yX6_layTrial cX6_layTrial 2 none, Cond.methodLink RX6 128 yX6_passOn, Cond.instanceMethod yX6_passOn, Cond.selects RX6 yX6_passOn yX6_passOn]
def wsX6_gives_r2 : List Cond := [Cond.code yX6_passOn cX6_passOn 5 (some .int), Cond.methodLink RX6 105 yX6_verdict, Cond.instanceMethod yX6_verdict, Cond.selects RX6 yX6_verdict yX6_verdict, Cond.code yX6_verdict cX6_verdict 5 (some .int), Cond.fieldLink RX6 47 "HungryJuryModel" "need" "I", Cond.methodLink RX6 102 yX6_ones, Cond.static yX6_ones, Cond.code yX6_ones cX6_ones 3 (some .int), Cond.methodLink RX6 111 yX6_hungerOn, Cond.instanceMethod yX6_hungerOn, Cond.selects RX6 yX6_hungerOn yX6_hungerOn, Cond.code yX6_hungerOn cX6_hungerOn 6 none, Cond.fieldLink RX6 7 "HungryJuryModel" "kind" "[I", Cond.methodLink RX6 115 yX6_givesIn, Cond.instanceMethod yX6_givesIn, Cond.selects RX6 yX6_givesIn yX6_givesIn, Cond.code yX6_givesIn cX6_givesIn 10 (some .boolean), Cond.fieldLink RX6 13 "HungryJuryModel" "heeds" "[I"]
def wsX6_gives : List Cond := .code yX6_gives cX6_gives 3 (some .int) :: ((wsX6_gives_r1 ++ wsX6_gives_r2) ++ wsX60)
def wsX6_toFeed_r1 : List Cond := [Cond.fieldLink RX6 16 "HungryJuryModel" "now" "[I", Cond.fieldLink RX6 96 "HungryJuryModel" "jurors" "I", Cond.methodLink RX6 53 yX6_in, Cond.static yX6_in, Cond.initialized RX6, Cond.code yX6_in cX6_in 6 (some .boolean), Cond.methodLink RX6 102 yX6_ones, Cond.static yX6_ones, Cond.code yX6_ones cX6_ones 3 (some .int), Cond.methodLink RX6 140 yX6_layTrial, Cond.instanceMethod yX6_layTrial, Cond.selects RX6 yX6_layTrial yX6_layTrial, Cond.code yX6_layTrial cX6_layTrial 2 none, Cond.methodLink RX6 68 yX6_has, Cond.static yX6_has, Cond.code yX6_has cX6_has 2 (some .boolean), Cond.methodLink RX6 146 yX6_runTrial, Cond.instanceMethod yX6_runTrial, Cond.selects RX6 yX6_runTrial yX6_runTrial, Cond.code yX6_runTrial cX6_runTrial 2 (some .int), Cond.fieldLink RX6 143 "HungryJuryModel" "endIn" "I", Cond.methodLink RX6 105 yX6_verdict, Cond.instanceMethod yX6_verdict, Cond.selects RX6 yX6_verdict yX6_verdict]
def wsX6_toFeed_r2 : List Cond := [Cond.code yX6_verdict cX6_verdict 5 (some .int), Cond.fieldLink RX6 47 "HungryJuryModel" "need" "I", Cond.methodLink RX6 128 yX6_passOn, Cond.instanceMethod yX6_passOn, Cond.selects RX6 yX6_passOn yX6_passOn, Cond.code yX6_passOn cX6_passOn 5 (some .int), Cond.methodLink RX6 108 yX6_isThere, Cond.instanceMethod yX6_isThere, Cond.selects RX6 yX6_isThere yX6_isThere, Cond.code yX6_isThere cX6_isThere 3 (some .boolean), Cond.methodLink RX6 111 yX6_hungerOn, Cond.instanceMethod yX6_hungerOn, Cond.selects RX6 yX6_hungerOn yX6_hungerOn, Cond.code yX6_hungerOn cX6_hungerOn 6 none, Cond.fieldLink RX6 7 "HungryJuryModel" "kind" "[I", Cond.methodLink RX6 115 yX6_givesIn, Cond.instanceMethod yX6_givesIn, Cond.selects RX6 yX6_givesIn yX6_givesIn, Cond.code yX6_givesIn cX6_givesIn 10 (some .boolean), Cond.fieldLink RX6 13 "HungryJuryModel" "heeds" "[I"]
def wsX6_toFeed : List Cond := .code yX6_toFeed cX6_toFeed 6 (some .int) :: ((wsX6_toFeed_r1 ++ wsX6_toFeed_r2) ++ wsX60)
def wsX6_strike_r1 : List Cond := [Cond.fieldLink RX6 16 "HungryJuryModel" "now" "[I", Cond.fieldLink RX6 96 "HungryJuryModel" "jurors" "I", Cond.methodLink RX6 53 yX6_in, Cond.static yX6_in, Cond.initialized RX6, Cond.code yX6_in cX6_in 6 (some .boolean), Cond.methodLink RX6 102 yX6_ones, Cond.static yX6_ones, Cond.code yX6_ones cX6_ones 3 (some .int), Cond.methodLink RX6 140 yX6_layTrial, Cond.instanceMethod yX6_layTrial, Cond.selects RX6 yX6_layTrial yX6_layTrial, Cond.code yX6_layTrial cX6_layTrial 2 none, Cond.methodLink RX6 68 yX6_has, Cond.static yX6_has, Cond.code yX6_has cX6_has 2 (some .boolean), Cond.methodLink RX6 137 yX6_dieOn, Cond.instanceMethod yX6_dieOn, Cond.selects RX6 yX6_dieOn yX6_dieOn, Cond.code yX6_dieOn cX6_dieOn 3 none, Cond.methodLink RX6 146 yX6_runTrial, Cond.instanceMethod yX6_runTrial, Cond.selects RX6 yX6_runTrial yX6_runTrial, Cond.code yX6_runTrial cX6_runTrial 2 (some .int)]
def wsX6_strike_r2 : List Cond := [Cond.fieldLink RX6 143 "HungryJuryModel" "endIn" "I", Cond.methodLink RX6 105 yX6_verdict, Cond.instanceMethod yX6_verdict, Cond.selects RX6 yX6_verdict yX6_verdict, Cond.code yX6_verdict cX6_verdict 5 (some .int), Cond.fieldLink RX6 47 "HungryJuryModel" "need" "I", Cond.methodLink RX6 128 yX6_passOn, Cond.instanceMethod yX6_passOn, Cond.selects RX6 yX6_passOn yX6_passOn, Cond.code yX6_passOn cX6_passOn 5 (some .int), Cond.methodLink RX6 108 yX6_isThere, Cond.instanceMethod yX6_isThere, Cond.selects RX6 yX6_isThere yX6_isThere, Cond.code yX6_isThere cX6_isThere 3 (some .boolean), Cond.methodLink RX6 111 yX6_hungerOn, Cond.instanceMethod yX6_hungerOn, Cond.selects RX6 yX6_hungerOn yX6_hungerOn, Cond.code yX6_hungerOn cX6_hungerOn 6 none, Cond.fieldLink RX6 7 "HungryJuryModel" "kind" "[I", Cond.methodLink RX6 115 yX6_givesIn, Cond.instanceMethod yX6_givesIn, Cond.selects RX6 yX6_givesIn yX6_givesIn, Cond.code yX6_givesIn cX6_givesIn 10 (some .boolean), Cond.fieldLink RX6 13 "HungryJuryModel" "heeds" "[I"]
def wsX6_strike : List Cond := .code yX6_strike cX6_strike 6 (some .int) :: ((wsX6_strike_r1 ++ wsX6_strike_r2) ++ wsX60)
def wsX6_tenTo : List Cond := .code yX6_tenTo cX6_tenTo 3 (some .int) :: ([])
def wsX6_isMove_r1 : List Cond := [Cond.fieldLink RX6 16 "HungryJuryModel" "now" "[I", Cond.methodLink RX6 140 yX6_layTrial, Cond.instanceMethod yX6_layTrial, Cond.selects RX6 yX6_layTrial yX6_layTrial, Cond.initialized RX6, Cond.code yX6_layTrial cX6_layTrial 2 none, Cond.methodLink RX6 149 yX6_tenTo, Cond.static yX6_tenTo, Cond.code yX6_tenTo cX6_tenTo 3 (some .int), Cond.methodLink RX6 118 yX6_isJuror, Cond.instanceMethod yX6_isJuror, Cond.selects RX6 yX6_isJuror yX6_isJuror, Cond.code yX6_isJuror cX6_isJuror 2 (some .boolean), Cond.fieldLink RX6 96 "HungryJuryModel" "jurors" "I", Cond.methodLink RX6 53 yX6_in, Cond.static yX6_in, Cond.code yX6_in cX6_in 6 (some .boolean), Cond.methodLink RX6 131 yX6_canArgue, Cond.instanceMethod yX6_canArgue, Cond.selects RX6 yX6_canArgue yX6_canArgue, Cond.code yX6_canArgue cX6_canArgue 3 (some .boolean), Cond.methodLink RX6 108 yX6_isThere, Cond.instanceMethod yX6_isThere, Cond.selects RX6 yX6_isThere yX6_isThere]
def wsX6_isMove_r2 : List Cond := [Cond.code yX6_isThere cX6_isThere 3 (some .boolean), Cond.methodLink RX6 68 yX6_has, Cond.static yX6_has, Cond.code yX6_has cX6_has 2 (some .boolean), Cond.methodLink RX6 146 yX6_runTrial, Cond.instanceMethod yX6_runTrial, Cond.selects RX6 yX6_runTrial yX6_runTrial, Cond.code yX6_runTrial cX6_runTrial 2 (some .int), Cond.fieldLink RX6 143 "HungryJuryModel" "endIn" "I", Cond.methodLink RX6 105 yX6_verdict, Cond.instanceMethod yX6_verdict, Cond.selects RX6 yX6_verdict yX6_verdict, Cond.code yX6_verdict cX6_verdict 5 (some .int), Cond.fieldLink RX6 47 "HungryJuryModel" "need" "I", Cond.methodLink RX6 102 yX6_ones, Cond.static yX6_ones, Cond.code yX6_ones cX6_ones 3 (some .int), Cond.methodLink RX6 128 yX6_passOn, Cond.instanceMethod yX6_passOn, Cond.selects RX6 yX6_passOn yX6_passOn, Cond.code yX6_passOn cX6_passOn 5 (some .int), Cond.methodLink RX6 111 yX6_hungerOn, Cond.instanceMethod yX6_hungerOn, Cond.selects RX6 yX6_hungerOn yX6_hungerOn]
def wsX6_isMove_r3 : List Cond := [Cond.code yX6_hungerOn cX6_hungerOn 6 none, Cond.fieldLink RX6 7 "HungryJuryModel" "kind" "[I", Cond.methodLink RX6 115 yX6_givesIn, Cond.instanceMethod yX6_givesIn, Cond.selects RX6 yX6_givesIn yX6_givesIn, Cond.code yX6_givesIn cX6_givesIn 10 (some .boolean), Cond.fieldLink RX6 13 "HungryJuryModel" "heeds" "[I"]
def wsX6_isMove : List Cond := .code yX6_isMove cX6_isMove 7 (some .boolean) :: ((wsX6_isMove_r1 ++ (wsX6_isMove_r2 ++ wsX6_isMove_r3)) ++ wsX60)
def wsX6_toMove_r1 : List Cond := [Cond.methodLink RX6 53 yX6_in, Cond.static yX6_in, Cond.initialized RX6, Cond.code yX6_in cX6_in 6 (some .boolean), Cond.methodLink RX6 149 yX6_tenTo, Cond.static yX6_tenTo, Cond.code yX6_tenTo cX6_tenTo 3 (some .int), Cond.methodLink RX6 152 yX6_isMove, Cond.instanceMethod yX6_isMove, Cond.selects RX6 yX6_isMove yX6_isMove, Cond.code yX6_isMove cX6_isMove 7 (some .boolean), Cond.fieldLink RX6 16 "HungryJuryModel" "now" "[I", Cond.methodLink RX6 140 yX6_layTrial, Cond.instanceMethod yX6_layTrial, Cond.selects RX6 yX6_layTrial yX6_layTrial, Cond.code yX6_layTrial cX6_layTrial 2 none, Cond.methodLink RX6 118 yX6_isJuror, Cond.instanceMethod yX6_isJuror, Cond.selects RX6 yX6_isJuror yX6_isJuror, Cond.code yX6_isJuror cX6_isJuror 2 (some .boolean), Cond.fieldLink RX6 96 "HungryJuryModel" "jurors" "I", Cond.methodLink RX6 131 yX6_canArgue, Cond.instanceMethod yX6_canArgue, Cond.selects RX6 yX6_canArgue yX6_canArgue]
def wsX6_toMove_r2 : List Cond := [Cond.code yX6_canArgue cX6_canArgue 3 (some .boolean), Cond.methodLink RX6 108 yX6_isThere, Cond.instanceMethod yX6_isThere, Cond.selects RX6 yX6_isThere yX6_isThere, Cond.code yX6_isThere cX6_isThere 3 (some .boolean), Cond.methodLink RX6 68 yX6_has, Cond.static yX6_has, Cond.code yX6_has cX6_has 2 (some .boolean), Cond.methodLink RX6 146 yX6_runTrial, Cond.instanceMethod yX6_runTrial, Cond.selects RX6 yX6_runTrial yX6_runTrial, Cond.code yX6_runTrial cX6_runTrial 2 (some .int), Cond.fieldLink RX6 143 "HungryJuryModel" "endIn" "I", Cond.methodLink RX6 105 yX6_verdict, Cond.instanceMethod yX6_verdict, Cond.selects RX6 yX6_verdict yX6_verdict, Cond.code yX6_verdict cX6_verdict 5 (some .int), Cond.fieldLink RX6 47 "HungryJuryModel" "need" "I", Cond.methodLink RX6 102 yX6_ones, Cond.static yX6_ones, Cond.code yX6_ones cX6_ones 3 (some .int), Cond.methodLink RX6 128 yX6_passOn, Cond.instanceMethod yX6_passOn, Cond.selects RX6 yX6_passOn yX6_passOn]
def wsX6_toMove_r3 : List Cond := [Cond.code yX6_passOn cX6_passOn 5 (some .int), Cond.methodLink RX6 111 yX6_hungerOn, Cond.instanceMethod yX6_hungerOn, Cond.selects RX6 yX6_hungerOn yX6_hungerOn, Cond.code yX6_hungerOn cX6_hungerOn 6 none, Cond.fieldLink RX6 7 "HungryJuryModel" "kind" "[I", Cond.methodLink RX6 115 yX6_givesIn, Cond.instanceMethod yX6_givesIn, Cond.selects RX6 yX6_givesIn yX6_givesIn, Cond.code yX6_givesIn cX6_givesIn 10 (some .boolean), Cond.fieldLink RX6 13 "HungryJuryModel" "heeds" "[I"]
def wsX6_toMove : List Cond := .code yX6_toMove cX6_toMove 5 (some .int) :: ((wsX6_toMove_r1 ++ (wsX6_toMove_r2 ++ wsX6_toMove_r3)) ++ wsX60)
def wsX6_tryThing_r1 : List Cond := [Cond.fieldLink RX6 16 "HungryJuryModel" "now" "[I", Cond.methodLink RX6 128 yX6_passOn, Cond.instanceMethod yX6_passOn, Cond.selects RX6 yX6_passOn yX6_passOn, Cond.initialized RX6, Cond.code yX6_passOn cX6_passOn 5 (some .int), Cond.fieldLink RX6 96 "HungryJuryModel" "jurors" "I", Cond.methodLink RX6 105 yX6_verdict, Cond.instanceMethod yX6_verdict, Cond.selects RX6 yX6_verdict yX6_verdict, Cond.code yX6_verdict cX6_verdict 5 (some .int), Cond.fieldLink RX6 47 "HungryJuryModel" "need" "I", Cond.methodLink RX6 102 yX6_ones, Cond.static yX6_ones, Cond.code yX6_ones cX6_ones 3 (some .int), Cond.methodLink RX6 108 yX6_isThere, Cond.instanceMethod yX6_isThere, Cond.selects RX6 yX6_isThere yX6_isThere, Cond.code yX6_isThere cX6_isThere 3 (some .boolean), Cond.methodLink RX6 68 yX6_has, Cond.static yX6_has, Cond.code yX6_has cX6_has 2 (some .boolean), Cond.methodLink RX6 111 yX6_hungerOn, Cond.instanceMethod yX6_hungerOn]
def wsX6_tryThing_r2 : List Cond := [Cond.selects RX6 yX6_hungerOn yX6_hungerOn, Cond.code yX6_hungerOn cX6_hungerOn 6 none, Cond.fieldLink RX6 7 "HungryJuryModel" "kind" "[I", Cond.methodLink RX6 115 yX6_givesIn, Cond.instanceMethod yX6_givesIn, Cond.selects RX6 yX6_givesIn yX6_givesIn, Cond.code yX6_givesIn cX6_givesIn 10 (some .boolean), Cond.fieldLink RX6 13 "HungryJuryModel" "heeds" "[I", Cond.methodLink RX6 118 yX6_isJuror, Cond.instanceMethod yX6_isJuror, Cond.selects RX6 yX6_isJuror yX6_isJuror, Cond.code yX6_isJuror cX6_isJuror 2 (some .boolean), Cond.methodLink RX6 53 yX6_in, Cond.static yX6_in, Cond.code yX6_in cX6_in 6 (some .boolean), Cond.methodLink RX6 131 yX6_canArgue, Cond.instanceMethod yX6_canArgue, Cond.selects RX6 yX6_canArgue yX6_canArgue, Cond.code yX6_canArgue cX6_canArgue 3 (some .boolean), Cond.methodLink RX6 134 yX6_canFeed, Cond.instanceMethod yX6_canFeed, Cond.selects RX6 yX6_canFeed yX6_canFeed, Cond.code yX6_canFeed cX6_canFeed 3 (some .boolean), Cond.methodLink RX6 137 yX6_dieOn]
def wsX6_tryThing_r3 : List Cond := [Cond.instanceMethod yX6_dieOn, Cond.selects RX6 yX6_dieOn yX6_dieOn, Cond.code yX6_dieOn cX6_dieOn 3 none]
def wsX6_tryThing : List Cond := .code yX6_tryThing cX6_tryThing 5 (some .boolean) :: ((wsX6_tryThing_r1 ++ (wsX6_tryThing_r2 ++ wsX6_tryThing_r3)) ++ wsX60)
def wsX6_judge_r1 : List Cond := [Cond.constantLong RX6 156 (4), Cond.methodLink RX6 53 yX6_in, Cond.static yX6_in, Cond.initialized RX6, Cond.code yX6_in cX6_in 6 (some .boolean), Cond.methodLink RX6 149 yX6_tenTo, Cond.static yX6_tenTo, Cond.code yX6_tenTo cX6_tenTo 3 (some .int), Cond.methodLink RX6 140 yX6_layTrial, Cond.instanceMethod yX6_layTrial, Cond.selects RX6 yX6_layTrial yX6_layTrial, Cond.code yX6_layTrial cX6_layTrial 2 none, Cond.fieldLink RX6 16 "HungryJuryModel" "now" "[I", Cond.methodLink RX6 158 yX6_tryThing, Cond.instanceMethod yX6_tryThing, Cond.selects RX6 yX6_tryThing yX6_tryThing, Cond.code yX6_tryThing cX6_tryThing 5 (some .boolean), Cond.methodLink RX6 128 yX6_passOn, Cond.instanceMethod yX6_passOn, Cond.selects RX6 yX6_passOn yX6_passOn, Cond.code yX6_passOn cX6_passOn 5 (some .int), Cond.fieldLink RX6 96 "HungryJuryModel" "jurors" "I", Cond.methodLink RX6 105 yX6_verdict, Cond.instanceMethod yX6_verdict]
def wsX6_judge_r2 : List Cond := [Cond.selects RX6 yX6_verdict yX6_verdict, Cond.code yX6_verdict cX6_verdict 5 (some .int), Cond.fieldLink RX6 47 "HungryJuryModel" "need" "I", Cond.methodLink RX6 102 yX6_ones, Cond.static yX6_ones, Cond.code yX6_ones cX6_ones 3 (some .int), Cond.methodLink RX6 108 yX6_isThere, Cond.instanceMethod yX6_isThere, Cond.selects RX6 yX6_isThere yX6_isThere, Cond.code yX6_isThere cX6_isThere 3 (some .boolean), Cond.methodLink RX6 68 yX6_has, Cond.static yX6_has, Cond.code yX6_has cX6_has 2 (some .boolean), Cond.methodLink RX6 111 yX6_hungerOn, Cond.instanceMethod yX6_hungerOn, Cond.selects RX6 yX6_hungerOn yX6_hungerOn, Cond.code yX6_hungerOn cX6_hungerOn 6 none, Cond.fieldLink RX6 7 "HungryJuryModel" "kind" "[I", Cond.methodLink RX6 115 yX6_givesIn, Cond.instanceMethod yX6_givesIn, Cond.selects RX6 yX6_givesIn yX6_givesIn, Cond.code yX6_givesIn cX6_givesIn 10 (some .boolean), Cond.fieldLink RX6 13 "HungryJuryModel" "heeds" "[I", Cond.methodLink RX6 118 yX6_isJuror]
def wsX6_judge_r3 : List Cond := [Cond.instanceMethod yX6_isJuror, Cond.selects RX6 yX6_isJuror yX6_isJuror, Cond.code yX6_isJuror cX6_isJuror 2 (some .boolean), Cond.methodLink RX6 131 yX6_canArgue, Cond.instanceMethod yX6_canArgue, Cond.selects RX6 yX6_canArgue yX6_canArgue, Cond.code yX6_canArgue cX6_canArgue 3 (some .boolean), Cond.methodLink RX6 134 yX6_canFeed, Cond.instanceMethod yX6_canFeed, Cond.selects RX6 yX6_canFeed yX6_canFeed, Cond.code yX6_canFeed cX6_canFeed 3 (some .boolean), Cond.methodLink RX6 137 yX6_dieOn, Cond.instanceMethod yX6_dieOn, Cond.selects RX6 yX6_dieOn yX6_dieOn, Cond.code yX6_dieOn cX6_dieOn 3 none]
def wsX6_judge : List Cond := .code yX6_judge cX6_judge 5 (some .int) :: ((wsX6_judge_r1 ++ (wsX6_judge_r2 ++ wsX6_judge_r3)) ++ wsX60)
def wsX6_see : List Cond := .code yX6_see cX6_see 4 (some .int) :: ([.constantLong RX6 66 (9), .fieldLink RX6 161 "HungryJuryModel" "seen" "I", .fieldLink RX6 31 "HungryJuryModel" "seenOf" "[I", .fieldLink RX6 34 "HungryJuryModel" "seenBehind" "[I", .fieldLink RX6 37 "HungryJuryModel" "seenFor" "[I", .methodLink RX6 118 yX6_isJuror, .instanceMethod yX6_isJuror, .selects RX6 yX6_isJuror yX6_isJuror, .initialized RX6, .code yX6_isJuror cX6_isJuror 2 (some .boolean), .fieldLink RX6 96 "HungryJuryModel" "jurors" "I", .methodLink RX6 53 yX6_in, .static yX6_in, .code yX6_in cX6_in 6 (some .boolean)] ++ wsX60)
def wsX6_unsee : List Cond := .code yX6_unsee cX6_unsee 2 (some .int) :: ([.fieldLink RX6 161 "HungryJuryModel" "seen" "I"] ++ wsX60)
def wsX6_isSeen : List Cond := .code yX6_isSeen cX6_isSeen 5 (some .boolean) :: ([.fieldLink RX6 161 "HungryJuryModel" "seen" "I", .fieldLink RX6 34 "HungryJuryModel" "seenBehind" "[I", .fieldLink RX6 31 "HungryJuryModel" "seenOf" "[I", .fieldLink RX6 16 "HungryJuryModel" "now" "[I", .fieldLink RX6 37 "HungryJuryModel" "seenFor" "[I", .methodLink RX6 118 yX6_isJuror, .instanceMethod yX6_isJuror, .selects RX6 yX6_isJuror yX6_isJuror, .initialized RX6, .code yX6_isJuror cX6_isJuror 2 (some .boolean), .fieldLink RX6 96 "HungryJuryModel" "jurors" "I", .methodLink RX6 53 yX6_in, .static yX6_in, .code yX6_in cX6_in 6 (some .boolean), .methodLink RX6 108 yX6_isThere, .instanceMethod yX6_isThere, .selects RX6 yX6_isThere yX6_isThere, .code yX6_isThere cX6_isThere 3 (some .boolean), .methodLink RX6 68 yX6_has, .static yX6_has, .code yX6_has cX6_has 2 (some .boolean)] ++ wsX60)
def wsX6_layYes : List Cond := .code yX6_layYes cX6_layYes 2 none :: ([.fieldLink RX6 16 "HungryJuryModel" "now" "[I", .methodLink RX6 140 yX6_layTrial, .instanceMethod yX6_layTrial, .selects RX6 yX6_layTrial yX6_layTrial, .initialized RX6, .code yX6_layTrial cX6_layTrial 2 none] ++ wsX60)
def wsX6_mayBe_r1 : List Cond := [Cond.methodLink RX6 164 yX6_layYes, Cond.instanceMethod yX6_layYes, Cond.selects RX6 yX6_layYes yX6_layYes, Cond.initialized RX6, Cond.code yX6_layYes cX6_layYes 2 none, Cond.fieldLink RX6 16 "HungryJuryModel" "now" "[I", Cond.methodLink RX6 140 yX6_layTrial, Cond.instanceMethod yX6_layTrial, Cond.selects RX6 yX6_layTrial yX6_layTrial, Cond.code yX6_layTrial cX6_layTrial 2 none, Cond.methodLink RX6 167 yX6_isSeen, Cond.instanceMethod yX6_isSeen, Cond.selects RX6 yX6_isSeen yX6_isSeen, Cond.code yX6_isSeen cX6_isSeen 5 (some .boolean), Cond.fieldLink RX6 161 "HungryJuryModel" "seen" "I", Cond.fieldLink RX6 34 "HungryJuryModel" "seenBehind" "[I", Cond.fieldLink RX6 31 "HungryJuryModel" "seenOf" "[I", Cond.fieldLink RX6 37 "HungryJuryModel" "seenFor" "[I", Cond.methodLink RX6 118 yX6_isJuror, Cond.instanceMethod yX6_isJuror, Cond.selects RX6 yX6_isJuror yX6_isJuror, Cond.code yX6_isJuror cX6_isJuror 2 (some .boolean), Cond.fieldLink RX6 96 "HungryJuryModel" "jurors" "I", Cond.methodLink RX6 53 yX6_in]
def wsX6_mayBe_r2 : List Cond := [Cond.static yX6_in, Cond.code yX6_in cX6_in 6 (some .boolean), Cond.methodLink RX6 108 yX6_isThere, Cond.instanceMethod yX6_isThere, Cond.selects RX6 yX6_isThere yX6_isThere, Cond.code yX6_isThere cX6_isThere 3 (some .boolean), Cond.methodLink RX6 68 yX6_has, Cond.static yX6_has, Cond.code yX6_has cX6_has 2 (some .boolean), Cond.methodLink RX6 128 yX6_passOn, Cond.instanceMethod yX6_passOn, Cond.selects RX6 yX6_passOn yX6_passOn, Cond.code yX6_passOn cX6_passOn 5 (some .int), Cond.methodLink RX6 105 yX6_verdict, Cond.instanceMethod yX6_verdict, Cond.selects RX6 yX6_verdict yX6_verdict, Cond.code yX6_verdict cX6_verdict 5 (some .int), Cond.fieldLink RX6 47 "HungryJuryModel" "need" "I", Cond.methodLink RX6 102 yX6_ones, Cond.static yX6_ones, Cond.code yX6_ones cX6_ones 3 (some .int), Cond.methodLink RX6 111 yX6_hungerOn, Cond.instanceMethod yX6_hungerOn, Cond.selects RX6 yX6_hungerOn yX6_hungerOn]
def wsX6_mayBe_r3 : List Cond := [Cond.code yX6_hungerOn cX6_hungerOn 6 none, Cond.fieldLink RX6 7 "HungryJuryModel" "kind" "[I", Cond.methodLink RX6 115 yX6_givesIn, Cond.instanceMethod yX6_givesIn, Cond.selects RX6 yX6_givesIn yX6_givesIn, Cond.code yX6_givesIn cX6_givesIn 10 (some .boolean), Cond.fieldLink RX6 13 "HungryJuryModel" "heeds" "[I"]
def wsX6_mayBe : List Cond := .code yX6_mayBe cX6_mayBe 4 (some .boolean) :: ((wsX6_mayBe_r1 ++ (wsX6_mayBe_r2 ++ wsX6_mayBe_r3)) ++ wsX60)
def wsX6_first_r1 : List Cond := [Cond.constantLong RX6 170 (2), Cond.fieldLink RX6 16 "HungryJuryModel" "now" "[I", Cond.methodLink RX6 53 yX6_in, Cond.static yX6_in, Cond.initialized RX6, Cond.code yX6_in cX6_in 6 (some .boolean), Cond.methodLink RX6 172 yX6_mayBe, Cond.instanceMethod yX6_mayBe, Cond.selects RX6 yX6_mayBe yX6_mayBe, Cond.code yX6_mayBe cX6_mayBe 4 (some .boolean), Cond.methodLink RX6 164 yX6_layYes, Cond.instanceMethod yX6_layYes, Cond.selects RX6 yX6_layYes yX6_layYes, Cond.code yX6_layYes cX6_layYes 2 none, Cond.methodLink RX6 140 yX6_layTrial, Cond.instanceMethod yX6_layTrial, Cond.selects RX6 yX6_layTrial yX6_layTrial, Cond.code yX6_layTrial cX6_layTrial 2 none, Cond.methodLink RX6 167 yX6_isSeen, Cond.instanceMethod yX6_isSeen, Cond.selects RX6 yX6_isSeen yX6_isSeen, Cond.code yX6_isSeen cX6_isSeen 5 (some .boolean), Cond.fieldLink RX6 161 "HungryJuryModel" "seen" "I", Cond.fieldLink RX6 34 "HungryJuryModel" "seenBehind" "[I"]
def wsX6_first_r2 : List Cond := [Cond.fieldLink RX6 31 "HungryJuryModel" "seenOf" "[I", Cond.fieldLink RX6 37 "HungryJuryModel" "seenFor" "[I", Cond.methodLink RX6 118 yX6_isJuror, Cond.instanceMethod yX6_isJuror, Cond.selects RX6 yX6_isJuror yX6_isJuror, Cond.code yX6_isJuror cX6_isJuror 2 (some .boolean), Cond.fieldLink RX6 96 "HungryJuryModel" "jurors" "I", Cond.methodLink RX6 108 yX6_isThere, Cond.instanceMethod yX6_isThere, Cond.selects RX6 yX6_isThere yX6_isThere, Cond.code yX6_isThere cX6_isThere 3 (some .boolean), Cond.methodLink RX6 68 yX6_has, Cond.static yX6_has, Cond.code yX6_has cX6_has 2 (some .boolean), Cond.methodLink RX6 128 yX6_passOn, Cond.instanceMethod yX6_passOn, Cond.selects RX6 yX6_passOn yX6_passOn, Cond.code yX6_passOn cX6_passOn 5 (some .int), Cond.methodLink RX6 105 yX6_verdict, Cond.instanceMethod yX6_verdict, Cond.selects RX6 yX6_verdict yX6_verdict, Cond.code yX6_verdict cX6_verdict 5 (some .int), Cond.fieldLink RX6 47 "HungryJuryModel" "need" "I", Cond.methodLink RX6 102 yX6_ones]
def wsX6_first_r3 : List Cond := [Cond.static yX6_ones, Cond.code yX6_ones cX6_ones 3 (some .int), Cond.methodLink RX6 111 yX6_hungerOn, Cond.instanceMethod yX6_hungerOn, Cond.selects RX6 yX6_hungerOn yX6_hungerOn, Cond.code yX6_hungerOn cX6_hungerOn 6 none, Cond.fieldLink RX6 7 "HungryJuryModel" "kind" "[I", Cond.methodLink RX6 115 yX6_givesIn, Cond.instanceMethod yX6_givesIn, Cond.selects RX6 yX6_givesIn yX6_givesIn, Cond.code yX6_givesIn cX6_givesIn 10 (some .boolean), Cond.fieldLink RX6 13 "HungryJuryModel" "heeds" "[I"]
def wsX6_first : List Cond := .code yX6_first cX6_first 6 (some .int) :: ((wsX6_first_r1 ++ (wsX6_first_r2 ++ wsX6_first_r3)) ++ wsX60)
def wsX6_factorial : List Cond := .code yX6_factorial cX6_factorial 3 (some .int) :: ([])
def wsX6_common : List Cond := .code yX6_common cX6_common 5 (some .int) :: ([])
def wsX6_endOf_r1 : List Cond := [Cond.methodLink RX6 164 yX6_layYes, Cond.instanceMethod yX6_layYes, Cond.selects RX6 yX6_layYes yX6_layYes, Cond.initialized RX6, Cond.code yX6_layYes cX6_layYes 2 none, Cond.fieldLink RX6 16 "HungryJuryModel" "now" "[I", Cond.methodLink RX6 140 yX6_layTrial, Cond.instanceMethod yX6_layTrial, Cond.selects RX6 yX6_layTrial yX6_layTrial, Cond.code yX6_layTrial cX6_layTrial 2 none, Cond.methodLink RX6 146 yX6_runTrial, Cond.instanceMethod yX6_runTrial, Cond.selects RX6 yX6_runTrial yX6_runTrial, Cond.code yX6_runTrial cX6_runTrial 2 (some .int), Cond.fieldLink RX6 143 "HungryJuryModel" "endIn" "I", Cond.methodLink RX6 105 yX6_verdict, Cond.instanceMethod yX6_verdict, Cond.selects RX6 yX6_verdict yX6_verdict, Cond.code yX6_verdict cX6_verdict 5 (some .int), Cond.fieldLink RX6 47 "HungryJuryModel" "need" "I", Cond.methodLink RX6 102 yX6_ones, Cond.static yX6_ones, Cond.code yX6_ones cX6_ones 3 (some .int), Cond.methodLink RX6 128 yX6_passOn]
def wsX6_endOf_r2 : List Cond := [Cond.instanceMethod yX6_passOn, Cond.selects RX6 yX6_passOn yX6_passOn, Cond.code yX6_passOn cX6_passOn 5 (some .int), Cond.fieldLink RX6 96 "HungryJuryModel" "jurors" "I", Cond.methodLink RX6 108 yX6_isThere, Cond.instanceMethod yX6_isThere, Cond.selects RX6 yX6_isThere yX6_isThere, Cond.code yX6_isThere cX6_isThere 3 (some .boolean), Cond.methodLink RX6 68 yX6_has, Cond.static yX6_has, Cond.code yX6_has cX6_has 2 (some .boolean), Cond.methodLink RX6 111 yX6_hungerOn, Cond.instanceMethod yX6_hungerOn, Cond.selects RX6 yX6_hungerOn yX6_hungerOn, Cond.code yX6_hungerOn cX6_hungerOn 6 none, Cond.fieldLink RX6 7 "HungryJuryModel" "kind" "[I", Cond.methodLink RX6 115 yX6_givesIn, Cond.instanceMethod yX6_givesIn, Cond.selects RX6 yX6_givesIn yX6_givesIn, Cond.code yX6_givesIn cX6_givesIn 10 (some .boolean), Cond.fieldLink RX6 13 "HungryJuryModel" "heeds" "[I"]
def wsX6_endOf : List Cond := .code yX6_endOf cX6_endOf 2 (some .int) :: ((wsX6_endOf_r1 ++ wsX6_endOf_r2) ++ wsX60)
def wsX6_share_r1 : List Cond := [Cond.fieldLink RX6 16 "HungryJuryModel" "now" "[I", Cond.methodLink RX6 118 yX6_isJuror, Cond.instanceMethod yX6_isJuror, Cond.selects RX6 yX6_isJuror yX6_isJuror, Cond.initialized RX6, Cond.code yX6_isJuror cX6_isJuror 2 (some .boolean), Cond.fieldLink RX6 96 "HungryJuryModel" "jurors" "I", Cond.methodLink RX6 53 yX6_in, Cond.static yX6_in, Cond.code yX6_in cX6_in 6 (some .boolean), Cond.methodLink RX6 108 yX6_isThere, Cond.instanceMethod yX6_isThere, Cond.selects RX6 yX6_isThere yX6_isThere, Cond.code yX6_isThere cX6_isThere 3 (some .boolean), Cond.methodLink RX6 68 yX6_has, Cond.static yX6_has, Cond.code yX6_has cX6_has 2 (some .boolean), Cond.methodLink RX6 102 yX6_ones, Cond.static yX6_ones, Cond.code yX6_ones cX6_ones 3 (some .int), Cond.methodLink RX6 175 yX6_factorial, Cond.static yX6_factorial, Cond.code yX6_factorial cX6_factorial 3 (some .int), Cond.methodLink RX6 178 yX6_endOf]
def wsX6_share_r2 : List Cond := [Cond.instanceMethod yX6_endOf, Cond.selects RX6 yX6_endOf yX6_endOf, Cond.code yX6_endOf cX6_endOf 2 (some .int), Cond.methodLink RX6 164 yX6_layYes, Cond.instanceMethod yX6_layYes, Cond.selects RX6 yX6_layYes yX6_layYes, Cond.code yX6_layYes cX6_layYes 2 none, Cond.methodLink RX6 140 yX6_layTrial, Cond.instanceMethod yX6_layTrial, Cond.selects RX6 yX6_layTrial yX6_layTrial, Cond.code yX6_layTrial cX6_layTrial 2 none, Cond.methodLink RX6 146 yX6_runTrial, Cond.instanceMethod yX6_runTrial, Cond.selects RX6 yX6_runTrial yX6_runTrial, Cond.code yX6_runTrial cX6_runTrial 2 (some .int), Cond.fieldLink RX6 143 "HungryJuryModel" "endIn" "I", Cond.methodLink RX6 105 yX6_verdict, Cond.instanceMethod yX6_verdict, Cond.selects RX6 yX6_verdict yX6_verdict, Cond.code yX6_verdict cX6_verdict 5 (some .int), Cond.fieldLink RX6 47 "HungryJuryModel" "need" "I", Cond.methodLink RX6 128 yX6_passOn, Cond.instanceMethod yX6_passOn, Cond.selects RX6 yX6_passOn yX6_passOn]
def wsX6_share_r3 : List Cond := [Cond.code yX6_passOn cX6_passOn 5 (some .int), Cond.methodLink RX6 111 yX6_hungerOn, Cond.instanceMethod yX6_hungerOn, Cond.selects RX6 yX6_hungerOn yX6_hungerOn, Cond.code yX6_hungerOn cX6_hungerOn 6 none, Cond.fieldLink RX6 7 "HungryJuryModel" "kind" "[I", Cond.methodLink RX6 115 yX6_givesIn, Cond.instanceMethod yX6_givesIn, Cond.selects RX6 yX6_givesIn yX6_givesIn, Cond.code yX6_givesIn cX6_givesIn 10 (some .boolean), Cond.fieldLink RX6 13 "HungryJuryModel" "heeds" "[I", Cond.methodLink RX6 181 yX6_common, Cond.static yX6_common, Cond.code yX6_common cX6_common 5 (some .int)]
def wsX6_share : List Cond := .code yX6_share cX6_share 7 (some .int) :: ((wsX6_share_r1 ++ (wsX6_share_r2 ++ wsX6_share_r3)) ++ wsX60)
def wsX6_loses : List Cond := .code yX6_loses cX6_loses 7 (some .int) :: ([.fieldLink RX6 7 "HungryJuryModel" "kind" "[I"] ++ wsX60)
def wsX6_isRest : List Cond := .code yX6_isRest cX6_isRest 7 (some .boolean) :: ([.methodLink RX6 185 yX6_loses, .instanceMethod yX6_loses, .selects RX6 yX6_loses yX6_loses, .initialized RX6, .code yX6_loses cX6_loses 7 (some .int), .fieldLink RX6 7 "HungryJuryModel" "kind" "[I"] ++ wsX60)
def wsX6_rests : List Cond := .code yX6_rests cX6_rests 7 (some .int) :: ([.methodLink RX6 118 yX6_isJuror, .instanceMethod yX6_isJuror, .selects RX6 yX6_isJuror yX6_isJuror, .initialized RX6, .code yX6_isJuror cX6_isJuror 2 (some .boolean), .fieldLink RX6 96 "HungryJuryModel" "jurors" "I", .methodLink RX6 53 yX6_in, .static yX6_in, .code yX6_in cX6_in 6 (some .boolean), .methodLink RX6 189 yX6_isRest, .instanceMethod yX6_isRest, .selects RX6 yX6_isRest yX6_isRest, .code yX6_isRest cX6_isRest 7 (some .boolean), .methodLink RX6 185 yX6_loses, .instanceMethod yX6_loses, .selects RX6 yX6_loses yX6_loses, .code yX6_loses cX6_loses 7 (some .int), .fieldLink RX6 7 "HungryJuryModel" "kind" "[I"] ++ wsX60)
def wsX6_power : List Cond := .code yX6_power cX6_power 4 (some .int) :: ([])
def wsX6_coins_r1 : List Cond := [Cond.constantLong RX6 193 (10), Cond.fieldLink RX6 16 "HungryJuryModel" "now" "[I", Cond.methodLink RX6 53 yX6_in, Cond.static yX6_in, Cond.initialized RX6, Cond.code yX6_in cX6_in 6 (some .boolean), Cond.methodLink RX6 102 yX6_ones, Cond.static yX6_ones, Cond.code yX6_ones cX6_ones 3 (some .int), Cond.methodLink RX6 195 yX6_power, Cond.static yX6_power, Cond.code yX6_power cX6_power 4 (some .int), Cond.methodLink RX6 178 yX6_endOf, Cond.instanceMethod yX6_endOf, Cond.selects RX6 yX6_endOf yX6_endOf, Cond.code yX6_endOf cX6_endOf 2 (some .int), Cond.methodLink RX6 164 yX6_layYes, Cond.instanceMethod yX6_layYes, Cond.selects RX6 yX6_layYes yX6_layYes, Cond.code yX6_layYes cX6_layYes 2 none, Cond.methodLink RX6 140 yX6_layTrial, Cond.instanceMethod yX6_layTrial, Cond.selects RX6 yX6_layTrial yX6_layTrial, Cond.code yX6_layTrial cX6_layTrial 2 none]
def wsX6_coins_r2 : List Cond := [Cond.methodLink RX6 146 yX6_runTrial, Cond.instanceMethod yX6_runTrial, Cond.selects RX6 yX6_runTrial yX6_runTrial, Cond.code yX6_runTrial cX6_runTrial 2 (some .int), Cond.fieldLink RX6 143 "HungryJuryModel" "endIn" "I", Cond.methodLink RX6 105 yX6_verdict, Cond.instanceMethod yX6_verdict, Cond.selects RX6 yX6_verdict yX6_verdict, Cond.code yX6_verdict cX6_verdict 5 (some .int), Cond.fieldLink RX6 47 "HungryJuryModel" "need" "I", Cond.methodLink RX6 128 yX6_passOn, Cond.instanceMethod yX6_passOn, Cond.selects RX6 yX6_passOn yX6_passOn, Cond.code yX6_passOn cX6_passOn 5 (some .int), Cond.fieldLink RX6 96 "HungryJuryModel" "jurors" "I", Cond.methodLink RX6 108 yX6_isThere, Cond.instanceMethod yX6_isThere, Cond.selects RX6 yX6_isThere yX6_isThere, Cond.code yX6_isThere cX6_isThere 3 (some .boolean), Cond.methodLink RX6 68 yX6_has, Cond.static yX6_has, Cond.code yX6_has cX6_has 2 (some .boolean), Cond.methodLink RX6 111 yX6_hungerOn, Cond.instanceMethod yX6_hungerOn]
def wsX6_coins_r3 : List Cond := [Cond.selects RX6 yX6_hungerOn yX6_hungerOn, Cond.code yX6_hungerOn cX6_hungerOn 6 none, Cond.fieldLink RX6 7 "HungryJuryModel" "kind" "[I", Cond.methodLink RX6 115 yX6_givesIn, Cond.instanceMethod yX6_givesIn, Cond.selects RX6 yX6_givesIn yX6_givesIn, Cond.code yX6_givesIn cX6_givesIn 10 (some .boolean), Cond.fieldLink RX6 13 "HungryJuryModel" "heeds" "[I", Cond.methodLink RX6 181 yX6_common, Cond.static yX6_common, Cond.code yX6_common cX6_common 5 (some .int)]
def wsX6_coins : List Cond := .code yX6_coins cX6_coins 9 (some .int) :: ((wsX6_coins_r1 ++ (wsX6_coins_r2 ++ wsX6_coins_r3)) ++ wsX60)
def wsX6_seed : List Cond := .code yX6_seed cX6_seed 5 (some .long) :: ([.fieldLink RX6 198 "HungryJuryModel" "seed" "J"] ++ wsX60)
def wsX6_assizes_r1 : List Cond := [Cond.constantLong RX6 202 (20), Cond.fieldLink RX6 198 "HungryJuryModel" "seed" "J", Cond.constantLong RX6 204 (6364136223846793005), Cond.constantLong RX6 206 (1442695040888963407), Cond.constantLong RX6 66 (9), Cond.fieldLink RX6 16 "HungryJuryModel" "now" "[I", Cond.methodLink RX6 53 yX6_in, Cond.static yX6_in, Cond.initialized RX6, Cond.code yX6_in cX6_in 6 (some .boolean), Cond.methodLink RX6 140 yX6_layTrial, Cond.instanceMethod yX6_layTrial, Cond.selects RX6 yX6_layTrial yX6_layTrial, Cond.code yX6_layTrial cX6_layTrial 2 none, Cond.methodLink RX6 128 yX6_passOn, Cond.instanceMethod yX6_passOn, Cond.selects RX6 yX6_passOn yX6_passOn, Cond.code yX6_passOn cX6_passOn 5 (some .int), Cond.fieldLink RX6 96 "HungryJuryModel" "jurors" "I", Cond.methodLink RX6 105 yX6_verdict, Cond.instanceMethod yX6_verdict, Cond.selects RX6 yX6_verdict yX6_verdict, Cond.code yX6_verdict cX6_verdict 5 (some .int), Cond.fieldLink RX6 47 "HungryJuryModel" "need" "I"]
def wsX6_assizes_r2 : List Cond := [Cond.methodLink RX6 102 yX6_ones, Cond.static yX6_ones, Cond.code yX6_ones cX6_ones 3 (some .int), Cond.methodLink RX6 108 yX6_isThere, Cond.instanceMethod yX6_isThere, Cond.selects RX6 yX6_isThere yX6_isThere, Cond.code yX6_isThere cX6_isThere 3 (some .boolean), Cond.methodLink RX6 68 yX6_has, Cond.static yX6_has, Cond.code yX6_has cX6_has 2 (some .boolean), Cond.methodLink RX6 111 yX6_hungerOn, Cond.instanceMethod yX6_hungerOn, Cond.selects RX6 yX6_hungerOn yX6_hungerOn, Cond.code yX6_hungerOn cX6_hungerOn 6 none, Cond.fieldLink RX6 7 "HungryJuryModel" "kind" "[I", Cond.methodLink RX6 115 yX6_givesIn, Cond.instanceMethod yX6_givesIn, Cond.selects RX6 yX6_givesIn yX6_givesIn, Cond.code yX6_givesIn cX6_givesIn 10 (some .boolean), Cond.fieldLink RX6 13 "HungryJuryModel" "heeds" "[I", Cond.methodLink RX6 118 yX6_isJuror, Cond.instanceMethod yX6_isJuror, Cond.selects RX6 yX6_isJuror yX6_isJuror, Cond.code yX6_isJuror cX6_isJuror 2 (some .boolean)]
def wsX6_assizes : List Cond := .code yX6_assizes cX6_assizes 5 (some .int) :: ((wsX6_assizes_r1 ++ wsX6_assizes_r2) ++ wsX60)
def wsX6_keep : List Cond := .code yX6_keep cX6_keep 3 (some .int) :: ([.fieldLink RX6 40 "HungryJuryModel" "isKept" "[Z", .fieldLink RX6 44 "HungryJuryModel" "kept" "[I", .fieldLink RX6 16 "HungryJuryModel" "now" "[I", .methodLink RX6 53 yX6_in, .static yX6_in, .initialized RX6, .code yX6_in cX6_in 6 (some .boolean)] ++ wsX60)
def wsX6_again : List Cond := .code yX6_again cX6_again 3 (some .int) :: ([.fieldLink RX6 40 "HungryJuryModel" "isKept" "[Z", .fieldLink RX6 16 "HungryJuryModel" "now" "[I", .fieldLink RX6 44 "HungryJuryModel" "kept" "[I", .fieldLink RX6 99 "HungryJuryModel" "acts" "I", .methodLink RX6 53 yX6_in, .static yX6_in, .initialized RX6, .code yX6_in cX6_in 6 (some .boolean)] ++ wsX60)
def wsX6_count : List Cond := .code yX6_count cX6_count 2 (some .int) :: ([.fieldLink RX6 57 "HungryJuryModel" "length" "I", .fieldLink RX6 96 "HungryJuryModel" "jurors" "I", .fieldLink RX6 47 "HungryJuryModel" "need" "I", .fieldLink RX6 16 "HungryJuryModel" "now" "[I", .fieldLink RX6 99 "HungryJuryModel" "acts" "I", .fieldLink RX6 161 "HungryJuryModel" "seen" "I", .methodLink RX6 105 yX6_verdict, .instanceMethod yX6_verdict, .selects RX6 yX6_verdict yX6_verdict, .initialized RX6, .code yX6_verdict cX6_verdict 5 (some .int), .methodLink RX6 102 yX6_ones, .static yX6_ones, .code yX6_ones cX6_ones 3 (some .int)] ++ wsX60)
def wsJ9_abs_0f7a4 : List Cond := .code yJ9_abs_0f7a4 cJ9_abs_0f7a4 1 (some .int) :: ([])
def wsJ9_max_7cf53 : List Cond := .code yJ9_max_7cf53 cJ9_max_7cf53 2 (some .int) :: ([])
def wsJ9_min_7cf53 : List Cond := .code yJ9_min_7cf53 cJ9_min_7cf53 2 (some .int) :: ([])
def wsL_law_r1 : List Cond := [Cond.classLink RL 7 RX5, Cond.instantiable RX5 10, Cond.initialized RX5, Cond.classLink RL 10 RX6, Cond.instantiable RX6 24, Cond.initialized RX6, Cond.constantLong RL 115 (4294967295), Cond.methodLink RL 9 yX5_init, Cond.instanceMethod yX5_init, Cond.code yX5_init cX5_init 2 none, Cond.methodLink RX5 3 objectInit, Cond.instanceMethod objectInit, Cond.code objectInit ⟨#[0xb1]⟩ 1 none, Cond.classLink RX5 9 RX4, Cond.instantiable RX4 2, Cond.initialized RX4, Cond.fieldLink RX5 12 "HungryJury" "text" "LHungryJury$Text;", Cond.classLink RX5 16 RX1, Cond.instantiable RX1 6, Cond.initialized RX1, Cond.fieldLink RX5 19 "HungryJury" "panel" "LHungryJury$Panel;", Cond.fieldLink RX5 23 "HungryJury" "draft" "LHungryJury$Panel;", Cond.classLink RX5 26 RX2, Cond.instantiable RX2 6]
def wsL_law_r2 : List Cond := [Cond.initialized RX2, Cond.fieldLink RX5 31 "HungryJury" "now" "LHungryJury$Room;", Cond.fieldLink RX5 35 "HungryJury" "trial" "LHungryJury$Room;", Cond.classLink RX5 38 RX0, Cond.instantiable RX0 2, Cond.initialized RX0, Cond.fieldLink RX5 41 "HungryJury" "acts" "LHungryJury$Acts;", Cond.fieldLink RX5 45 "HungryJury" "slots" "[LHungryJury$Room;", Cond.arrayClass .boolean, Cond.fieldLink RX5 49 "HungryJury" "isKept" "[Z", Cond.classLink RX5 53 RX3, Cond.instantiable RX3 4, Cond.initialized RX3, Cond.fieldLink RX5 56 "HungryJury" "sights" "LHungryJury$Sights;", Cond.instanceMethod yX4_init, Cond.code yX4_init cX4_init 1 none, Cond.methodLink RX4 3 objectInit, Cond.arrayClass .int, Cond.fieldLink RX4 9 "HungryJury$Text" "letters" "[I", Cond.instanceMethod yX1_init, Cond.code yX1_init cX1_init 1 none, Cond.methodLink RX1 3 objectInit, Cond.fieldLink RX1 9 "HungryJury$Panel" "stubborn" "[I", Cond.fieldLink RX1 15 "HungryJury$Panel" "kind" "[I"]
def wsL_law_r3 : List Cond := [Cond.fieldLink RX1 18 "HungryJury$Panel" "heeded" "[I", Cond.fieldLink RX1 21 "HungryJury$Panel" "need" "I", Cond.methodLink RX5 28 yX2_init, Cond.instanceMethod yX2_init, Cond.code yX2_init cX2_init 2 none, Cond.methodLink RX2 3 objectInit, Cond.fieldLink RX2 9 "HungryJury$Room" "stubborn" "[I", Cond.fieldLink RX2 15 "HungryJury$Room" "hunger" "[I", Cond.fieldLink RX2 18 "HungryJury$Room" "panel" "LHungryJury$Panel;", Cond.methodLink RX5 40 yX0_init, Cond.instanceMethod yX0_init, Cond.code yX0_init cX0_init 3 none, Cond.methodLink RX0 3 objectInit, Cond.classLink RX0 9 RX2, Cond.fieldLink RX0 11 "HungryJury$Acts" "before" "[LHungryJury$Room;", Cond.methodLink RX0 17 yX2_init, Cond.instanceMethod yX3_init, Cond.code yX3_init cX3_init 1 none, Cond.methodLink RX3 3 objectInit, Cond.fieldLink RX3 9 "HungryJury$Sights" "who" "[I", Cond.fieldLink RX3 15 "HungryJury$Sights" "hours" "[I", Cond.fieldLink RX3 18 "HungryJury$Sights" "side" "[I", Cond.methodLink RL 12 yX6_init, Cond.instanceMethod yX6_init]
def wsL_law_r4 : List Cond := [Cond.code yX6_init cX6_init 1 none, Cond.methodLink RX6 1 objectInit, Cond.fieldLink RX6 7 "HungryJuryModel" "kind" "[I", Cond.fieldLink RX6 13 "HungryJuryModel" "heeds" "[I", Cond.fieldLink RX6 16 "HungryJuryModel" "now" "[I", Cond.fieldLink RX6 19 "HungryJuryModel" "readOf" "[I", Cond.fieldLink RX6 22 "HungryJuryModel" "readHeeds" "[I", Cond.fieldLink RX6 25 "HungryJuryModel" "text" "[I", Cond.fieldLink RX6 28 "HungryJuryModel" "row" "[I", Cond.fieldLink RX6 31 "HungryJuryModel" "seenOf" "[I", Cond.fieldLink RX6 34 "HungryJuryModel" "seenBehind" "[I", Cond.fieldLink RX6 37 "HungryJuryModel" "seenFor" "[I", Cond.fieldLink RX6 40 "HungryJuryModel" "isKept" "[Z", Cond.fieldLink RX6 44 "HungryJuryModel" "kept" "[I", Cond.fieldLink RX6 47 "HungryJuryModel" "need" "I", Cond.methodLink RL 13 yX5_write, Cond.instanceMethod yX5_write, Cond.selects RX5 yX5_write yX5_write, Cond.code yX5_write cX5_write 2 (some .int), Cond.fieldLink RX5 64 "HungryJury$Text" "length" "I", Cond.methodLink RX5 60 yX4_add, Cond.instanceMethod yX4_add, Cond.selects RX4 yX4_add yX4_add, Cond.code yX4_add cX4_add 2 (some .boolean)]
def wsL_law_r5 : List Cond := [Cond.fieldLink RX4 15 "HungryJury$Text" "length" "I", Cond.methodLink RL 17 yX6_write, Cond.instanceMethod yX6_write, Cond.selects RX6 yX6_write yX6_write, Cond.code yX6_write cX6_write 2 (some .int), Cond.constantLong RX6 51 (255), Cond.fieldLink RX6 57 "HungryJuryModel" "length" "I", Cond.methodLink RX6 53 yX6_in, Cond.static yX6_in, Cond.code yX6_in cX6_in 6 (some .boolean), Cond.methodLink RL 18 yX5_wipe, Cond.instanceMethod yX5_wipe, Cond.selects RX5 yX5_wipe yX5_wipe, Cond.code yX5_wipe cX5_wipe 2 (some .int), Cond.methodLink RL 22 yX6_wipe, Cond.instanceMethod yX6_wipe, Cond.selects RX6 yX6_wipe yX6_wipe, Cond.code yX6_wipe cX6_wipe 2 (some .int), Cond.methodLink RL 23 yX5_fault, Cond.instanceMethod yX5_fault, Cond.selects RX5 yX5_fault yX5_fault, Cond.code yX5_fault cX5_fault 1 (some .int), Cond.methodLink RX5 68 yX1_readFrom, Cond.instanceMethod yX1_readFrom]
def wsL_law_r6 : List Cond := [Cond.selects RX1 yX1_readFrom yX1_readFrom, Cond.code yX1_readFrom cX1_readFrom 5 (some .int), Cond.fieldLink RX1 25 "HungryJury$Panel" "jurors" "I", Cond.fieldLink RX1 28 "HungryJury$Panel" "yes" "I", Cond.fieldLink RX1 44 "HungryJury$Text" "length" "I", Cond.methodLink RX1 31 yX4_letterAt, Cond.instanceMethod yX4_letterAt, Cond.selects RX4 yX4_letterAt yX4_letterAt, Cond.code yX4_letterAt cX4_letterAt 2 (some .int), Cond.methodLink RX1 37 yX4_isFigure, Cond.instanceMethod yX4_isFigure, Cond.selects RX4 yX4_isFigure yX4_isFigure, Cond.code yX4_isFigure cX4_isFigure 5 (some .boolean), Cond.methodLink RX4 19 yX4_letterAt, Cond.methodLink RX1 41 yX4_figureAt, Cond.instanceMethod yX4_figureAt, Cond.selects RX4 yX4_figureAt yX4_figureAt, Cond.code yX4_figureAt cX4_figureAt 2 (some .int), Cond.methodLink RX1 47 yX1_readJuror, Cond.instanceMethod yX1_readJuror, Cond.selects RX1 yX1_readJuror yX1_readJuror, Cond.code yX1_readJuror cX1_readJuror 3 (some .int), Cond.methodLink RX1 51 yX1_readPair, Cond.instanceMethod yX1_readPair]
def wsL_law_r7 : List Cond := [Cond.selects RX1 yX1_readPair yX1_readPair, Cond.code yX1_readPair cX1_readPair 5 (some .int), Cond.methodLink RX1 54 yX1_hasPairLeft, Cond.instanceMethod yX1_hasPairLeft, Cond.selects RX1 yX1_hasPairLeft yX1_hasPairLeft, Cond.code yX1_hasPairLeft cX1_hasPairLeft 2 (some .boolean), Cond.methodLink RX1 58 yX1_pairsLeft, Cond.instanceMethod yX1_pairsLeft, Cond.selects RX1 yX1_pairsLeft yX1_pairsLeft, Cond.code yX1_pairsLeft cX1_pairsLeft 2 (some .int), Cond.methodLink RL 26 yX6_fault, Cond.instanceMethod yX6_fault, Cond.selects RX6 yX6_fault yX6_fault, Cond.code yX6_fault cX6_fault 1 (some .int), Cond.methodLink RX6 93 yX6_readText, Cond.instanceMethod yX6_readText, Cond.selects RX6 yX6_readText yX6_readText, Cond.code yX6_readText cX6_readText 2 (some .int), Cond.fieldLink RX6 63 "HungryJuryModel" "at" "I", Cond.fieldLink RX6 60 "HungryJuryModel" "faultAt" "I", Cond.fieldLink RX6 72 "HungryJuryModel" "readJurors" "I", Cond.fieldLink RX6 82 "HungryJuryModel" "readNeed" "I", Cond.methodLink RX6 79 yX6_figureOf, Cond.instanceMethod yX6_figureOf]
def wsL_law_r8 : List Cond := [Cond.selects RX6 yX6_figureOf yX6_figureOf, Cond.code yX6_figureOf cX6_figureOf 3 (some .int), Cond.constantLong RX6 66 (9), Cond.methodLink RX6 68 yX6_has, Cond.static yX6_has, Cond.code yX6_has cX6_has 2 (some .boolean), Cond.methodLink RX6 85 yX6_readPart, Cond.instanceMethod yX6_readPart, Cond.selects RX6 yX6_readPart yX6_readPart, Cond.code yX6_readPart cX6_readPart 4 none, Cond.methodLink RX6 89 yX6_firstsLeft, Cond.instanceMethod yX6_firstsLeft, Cond.selects RX6 yX6_firstsLeft yX6_firstsLeft, Cond.code yX6_firstsLeft cX6_firstsLeft 3 (some .int), Cond.methodLink RX6 75 yX6_left, Cond.instanceMethod yX6_left, Cond.selects RX6 yX6_left yX6_left, Cond.code yX6_left cX6_left 2 (some .int), Cond.methodLink RL 27 yX5_jury, Cond.instanceMethod yX5_jury, Cond.selects RX5 yX5_jury yX5_jury, Cond.code yX5_jury cX5_jury 2 (some .int), Cond.fieldLink RX5 78 "HungryJury$Panel" "jurors" "I", Cond.methodLink RX5 72 yX2_beginAnew]
def wsL_law_r9 : List Cond := [Cond.instanceMethod yX2_beginAnew, Cond.selects RX2 yX2_beginAnew yX2_beginAnew, Cond.code yX2_beginAnew cX2_beginAnew 2 none, Cond.fieldLink RX2 22 "HungryJury$Panel" "yes" "I", Cond.fieldLink RX2 28 "HungryJury$Room" "yes" "I", Cond.fieldLink RX2 29 "HungryJury$Panel" "jurors" "I", Cond.fieldLink RX2 32 "HungryJury$Room" "there" "I", Cond.fieldLink RX2 35 "HungryJury$Room" "theHour" "I", Cond.fieldLink RX2 38 "HungryJury$Panel" "stubborn" "[I", Cond.methodLink RX5 75 yX0_forgetAll, Cond.instanceMethod yX0_forgetAll, Cond.selects RX0 yX0_forgetAll yX0_forgetAll, Cond.code yX0_forgetAll cX0_forgetAll 1 none, Cond.fieldLink RX0 20 "HungryJury$Acts" "size" "I", Cond.methodLink RL 30 yX6_jury, Cond.instanceMethod yX6_jury, Cond.selects RX6 yX6_jury yX6_jury, Cond.code yX6_jury cX6_jury 2 (some .int), Cond.fieldLink RX6 96 "HungryJuryModel" "jurors" "I", Cond.fieldLink RX6 99 "HungryJuryModel" "acts" "I", Cond.methodLink RL 31 yX5_juror, Cond.instanceMethod yX5_juror, Cond.selects RX5 yX5_juror yX5_juror, Cond.code yX5_juror cX5_juror 3 (some .int)]
def wsL_law_r10 : List Cond := [Cond.fieldLink RX5 87 "HungryJury$Room" "stubborn" "[I", Cond.fieldLink RX5 91 "HungryJury$Panel" "kind" "[I", Cond.fieldLink RX5 94 "HungryJury$Room" "hunger" "[I", Cond.fieldLink RX5 97 "HungryJury$Panel" "heeded" "[I", Cond.methodLink RX5 81 yX5_isJuror, Cond.instanceMethod yX5_isJuror, Cond.selects RX5 yX5_isJuror yX5_isJuror, Cond.code yX5_isJuror cX5_isJuror 2 (some .boolean), Cond.methodLink RX5 84 yX2_isYes, Cond.instanceMethod yX2_isYes, Cond.selects RX2 yX2_isYes yX2_isYes, Cond.code yX2_isYes cX2_isYes 2 (some .boolean), Cond.methodLink RX5 100 yX2_isThere, Cond.instanceMethod yX2_isThere, Cond.selects RX2 yX2_isThere yX2_isThere, Cond.code yX2_isThere cX2_isThere 2 (some .boolean), Cond.methodLink RL 35 yX6_juror, Cond.instanceMethod yX6_juror, Cond.selects RX6 yX6_juror yX6_juror, Cond.code yX6_juror cX6_juror 3 (some .int), Cond.methodLink RX6 118 yX6_isJuror, Cond.instanceMethod yX6_isJuror, Cond.selects RX6 yX6_isJuror yX6_isJuror, Cond.code yX6_isJuror cX6_isJuror 2 (some .boolean)]
def wsL_law_r11 : List Cond := [Cond.methodLink RL 36 yX5_hour, Cond.instanceMethod yX5_hour, Cond.selects RX5 yX5_hour yX5_hour, Cond.code yX5_hour cX5_hour 1 (some .int), Cond.methodLink RX5 103 yX0_remember, Cond.instanceMethod yX0_remember, Cond.selects RX0 yX0_remember yX0_remember, Cond.code yX0_remember cX0_remember 2 none, Cond.methodLink RX0 24 yX0_forgetOldest, Cond.instanceMethod yX0_forgetOldest, Cond.selects RX0 yX0_forgetOldest yX0_forgetOldest, Cond.code yX0_forgetOldest cX0_forgetOldest 3 none, Cond.methodLink RX0 27 yX2_copyFrom, Cond.instanceMethod yX2_copyFrom, Cond.selects RX2 yX2_copyFrom yX2_copyFrom, Cond.code yX2_copyFrom cX2_copyFrom 3 none, Cond.methodLink RX5 107 yX2_passHour, Cond.instanceMethod yX2_passHour, Cond.selects RX2 yX2_passHour yX2_passHour, Cond.code yX2_passHour cX2_passHour 4 (some .int), Cond.methodLink RX2 52 yX2_verdict, Cond.instanceMethod yX2_verdict, Cond.selects RX2 yX2_verdict yX2_verdict, Cond.code yX2_verdict cX2_verdict 3 (some .int)]
def wsL_law_r12 : List Cond := [Cond.methodLink RX2 39 yJ6_bitCount_0f7a4, Cond.static yJ6_bitCount_0f7a4, Cond.initialized RJ6, Cond.code yJ6_bitCount_0f7a4 cJ6_bitCount_0f7a4 1 (some .int), Cond.constant RJ6 265 (1431655765), Cond.constant RJ6 266 (858993459), Cond.constant RJ6 267 (252645135), Cond.methodLink RX2 45 yX2_carries, Cond.instanceMethod yX2_carries, Cond.selects RX2 yX2_carries yX2_carries, Cond.code yX2_carries cX2_carries 3 (some .boolean), Cond.fieldLink RX2 49 "HungryJury$Panel" "need" "I", Cond.methodLink RX2 56 yX2_growHungry, Cond.instanceMethod yX2_growHungry, Cond.selects RX2 yX2_growHungry yX2_growHungry, Cond.code yX2_growHungry cX2_growHungry 2 none, Cond.fieldLink RX2 66 "HungryJury$Panel" "kind" "[I", Cond.methodLink RX2 72 Lib.Math.min.name, Cond.static Lib.Math.min.name, Cond.initialized "java/lang/Math", Cond.code Lib.Math.min.name Lib.Math.min.code 2 (some .int), Cond.methodLink RX2 59 yX2_isThere, Cond.methodLink RX2 69 yX2_hungerOfHour, Cond.instanceMethod yX2_hungerOfHour]
def wsL_law_r13 : List Cond := [Cond.selects RX2 yX2_hungerOfHour yX2_hungerOfHour, Cond.code yX2_hungerOfHour cX2_hungerOfHour 2 (some .int), Cond.methodLink RX2 63 yX2_mustGiveIn, Cond.instanceMethod yX2_mustGiveIn, Cond.selects RX2 yX2_mustGiveIn yX2_mustGiveIn, Cond.code yX2_mustGiveIn cX2_mustGiveIn 5 (some .boolean), Cond.fieldLink RX2 81 "HungryJury$Panel" "heeded" "[I", Cond.methodLink RX2 78 yX2_isYes, Cond.methodLink RX5 111 yJ6_bitCount_0f7a4, Cond.methodLink RL 39 yX6_hour, Cond.instanceMethod yX6_hour, Cond.selects RX6 yX6_hour yX6_hour, Cond.code yX6_hour cX6_hour 1 (some .int), Cond.methodLink RX6 125 yX6_keepAct, Cond.instanceMethod yX6_keepAct, Cond.selects RX6 yX6_keepAct yX6_keepAct, Cond.code yX6_keepAct cX6_keepAct 2 none, Cond.fieldLink RX6 122 "HungryJuryModel" "next" "I", Cond.methodLink RX6 128 yX6_passOn, Cond.instanceMethod yX6_passOn, Cond.selects RX6 yX6_passOn yX6_passOn, Cond.code yX6_passOn cX6_passOn 5 (some .int), Cond.methodLink RX6 105 yX6_verdict, Cond.instanceMethod yX6_verdict]
def wsL_law_r14 : List Cond := [Cond.selects RX6 yX6_verdict yX6_verdict, Cond.code yX6_verdict cX6_verdict 5 (some .int), Cond.methodLink RX6 102 yX6_ones, Cond.static yX6_ones, Cond.code yX6_ones cX6_ones 3 (some .int), Cond.methodLink RX6 108 yX6_isThere, Cond.instanceMethod yX6_isThere, Cond.selects RX6 yX6_isThere yX6_isThere, Cond.code yX6_isThere cX6_isThere 3 (some .boolean), Cond.methodLink RX6 111 yX6_hungerOn, Cond.instanceMethod yX6_hungerOn, Cond.selects RX6 yX6_hungerOn yX6_hungerOn, Cond.code yX6_hungerOn cX6_hungerOn 6 none, Cond.methodLink RX6 115 yX6_givesIn, Cond.instanceMethod yX6_givesIn, Cond.selects RX6 yX6_givesIn yX6_givesIn, Cond.code yX6_givesIn cX6_givesIn 10 (some .boolean), Cond.methodLink RL 40 yX5_argue, Cond.instanceMethod yX5_argue, Cond.selects RX5 yX5_argue yX5_argue, Cond.code yX5_argue cX5_argue 3 (some .int), Cond.methodLink RX5 117 yX5_doAct, Cond.instanceMethod yX5_doAct, Cond.selects RX5 yX5_doAct yX5_doAct]
def wsL_law_r15 : List Cond := [Cond.code yX5_doAct cX5_doAct 3 (some .int), Cond.methodLink RX5 158 yX2_canDo, Cond.instanceMethod yX2_canDo, Cond.selects RX2 yX2_canDo yX2_canDo, Cond.code yX2_canDo cX2_canDo 3 (some .boolean), Cond.methodLink RX5 162 yX2_carryOut, Cond.instanceMethod yX2_carryOut, Cond.selects RX2 yX2_carryOut yX2_carryOut, Cond.code yX2_carryOut cX2_carryOut 3 none, Cond.methodLink RX2 87 Lib.Math.max.name, Cond.static Lib.Math.max.name, Cond.code Lib.Math.max.name Lib.Math.max.code 2 (some .int), Cond.methodLink RX2 84 yX2_passHour, Cond.methodLink RL 43 yX6_argue, Cond.instanceMethod yX6_argue, Cond.selects RX6 yX6_argue yX6_argue, Cond.code yX6_argue cX6_argue 2 (some .int), Cond.methodLink RX6 131 yX6_canArgue, Cond.instanceMethod yX6_canArgue, Cond.selects RX6 yX6_canArgue yX6_canArgue, Cond.code yX6_canArgue cX6_canArgue 3 (some .boolean), Cond.methodLink RL 44 yX5_feed, Cond.instanceMethod yX5_feed, Cond.selects RX5 yX5_feed yX5_feed]
def wsL_law_r16 : List Cond := [Cond.code yX5_feed cX5_feed 4 (some .int), Cond.methodLink RL 47 yX6_feed, Cond.instanceMethod yX6_feed, Cond.selects RX6 yX6_feed yX6_feed, Cond.code yX6_feed cX6_feed 3 (some .int), Cond.methodLink RX6 134 yX6_canFeed, Cond.instanceMethod yX6_canFeed, Cond.selects RX6 yX6_canFeed yX6_canFeed, Cond.code yX6_canFeed cX6_canFeed 3 (some .boolean), Cond.methodLink RL 48 yX5_die, Cond.instanceMethod yX5_die, Cond.selects RX5 yX5_die yX5_die, Cond.code yX5_die cX5_die 3 (some .int), Cond.fieldLink RX5 121 "HungryJury$Room" "there" "I", Cond.methodLink RL 51 yX6_die, Cond.instanceMethod yX6_die, Cond.selects RX6 yX6_die yX6_die, Cond.code yX6_die cX6_die 2 (some .int), Cond.methodLink RX6 137 yX6_dieOn, Cond.instanceMethod yX6_dieOn, Cond.selects RX6 yX6_dieOn yX6_dieOn, Cond.code yX6_dieOn cX6_dieOn 3 none, Cond.methodLink RL 52 yX5_toss, Cond.instanceMethod yX5_toss]
def wsL_law_r17 : List Cond := [Cond.selects RX5 yX5_toss yX5_toss, Cond.code yX5_toss cX5_toss 3 (some .int), Cond.methodLink RL 55 yX6_toss, Cond.instanceMethod yX6_toss, Cond.selects RX6 yX6_toss yX6_toss, Cond.code yX6_toss cX6_toss 2 (some .int), Cond.methodLink RL 56 yX5_undo, Cond.instanceMethod yX5_undo, Cond.selects RX5 yX5_undo yX5_undo, Cond.code yX5_undo cX5_undo 1 (some .int), Cond.fieldLink RX5 128 "HungryJury$Acts" "size" "I", Cond.methodLink RX5 124 yX0_takeBack, Cond.instanceMethod yX0_takeBack, Cond.selects RX0 yX0_takeBack yX0_takeBack, Cond.code yX0_takeBack cX0_takeBack 2 (some .boolean), Cond.methodLink RL 59 yX6_undo, Cond.instanceMethod yX6_undo, Cond.selects RX6 yX6_undo yX6_undo, Cond.code yX6_undo cX6_undo 2 (some .int), Cond.methodLink RL 60 yX5_ahead, Cond.instanceMethod yX5_ahead, Cond.selects RX5 yX5_ahead yX5_ahead, Cond.code yX5_ahead cX5_ahead 3 (some .int), Cond.methodLink RX5 131 yX2_copyFrom]
def wsL_law_r18 : List Cond := [Cond.methodLink RX5 134 yX2_yesThere, Cond.instanceMethod yX2_yesThere, Cond.selects RX2 yX2_yesThere yX2_yesThere, Cond.code yX2_yesThere cX2_yesThere 1 (some .int), Cond.methodLink RL 63 yX6_ahead, Cond.instanceMethod yX6_ahead, Cond.selects RX6 yX6_ahead yX6_ahead, Cond.code yX6_ahead cX6_ahead 3 (some .int), Cond.methodLink RX6 140 yX6_layTrial, Cond.instanceMethod yX6_layTrial, Cond.selects RX6 yX6_layTrial yX6_layTrial, Cond.code yX6_layTrial cX6_layTrial 2 none, Cond.methodLink RL 64 yX5_end, Cond.instanceMethod yX5_end, Cond.selects RX5 yX5_end yX5_end, Cond.code yX5_end cX5_end 3 (some .int), Cond.methodLink RX5 137 yX2_passHoursToEnd, Cond.instanceMethod yX2_passHoursToEnd, Cond.selects RX2 yX2_passHoursToEnd yX2_passHoursToEnd, Cond.code yX2_passHoursToEnd cX2_passHoursToEnd 2 (some .int), Cond.methodLink RX5 140 yX2_verdict, Cond.methodLink RL 67 yX6_end, Cond.instanceMethod yX6_end, Cond.selects RX6 yX6_end yX6_end]
def wsL_law_r19 : List Cond := [Cond.code yX6_end cX6_end 3 (some .int), Cond.fieldLink RX6 143 "HungryJuryModel" "endIn" "I", Cond.methodLink RX6 146 yX6_runTrial, Cond.instanceMethod yX6_runTrial, Cond.selects RX6 yX6_runTrial yX6_runTrial, Cond.code yX6_runTrial cX6_runTrial 2 (some .int), Cond.methodLink RL 68 yX5_gives, Cond.instanceMethod yX5_gives, Cond.selects RX5 yX5_gives yX5_gives, Cond.code yX5_gives cX5_gives 3 (some .int), Cond.methodLink RL 71 yX6_gives, Cond.instanceMethod yX6_gives, Cond.selects RX6 yX6_gives yX6_gives, Cond.code yX6_gives cX6_gives 3 (some .int), Cond.methodLink RL 72 yX5_toFeed, Cond.instanceMethod yX5_toFeed, Cond.selects RX5 yX5_toFeed yX5_toFeed, Cond.code yX5_toFeed cX5_toFeed 2 (some .int), Cond.methodLink RX5 143 yX5_isSide, Cond.static yX5_isSide, Cond.code yX5_isSide cX5_isSide 1 (some .boolean), Cond.methodLink RX5 146 yX5_fewestFor, Cond.instanceMethod yX5_fewestFor, Cond.selects RX5 yX5_fewestFor yX5_fewestFor]
def wsL_law_r20 : List Cond := [Cond.code yX5_fewestFor cX5_fewestFor 8 (some .int), Cond.methodLink RX5 193 yX5_endAfter, Cond.instanceMethod yX5_endAfter, Cond.selects RX5 yX5_endAfter yX5_endAfter, Cond.code yX5_endAfter cX5_endAfter 4 (some .int), Cond.methodLink RL 75 yX6_toFeed, Cond.instanceMethod yX6_toFeed, Cond.selects RX6 yX6_toFeed yX6_toFeed, Cond.code yX6_toFeed cX6_toFeed 6 (some .int), Cond.methodLink RL 76 yX5_strike, Cond.instanceMethod yX5_strike, Cond.selects RX5 yX5_strike yX5_strike, Cond.code yX5_strike cX5_strike 2 (some .int), Cond.methodLink RL 79 yX6_strike, Cond.instanceMethod yX6_strike, Cond.selects RX6 yX6_strike yX6_strike, Cond.code yX6_strike cX6_strike 6 (some .int), Cond.methodLink RL 80 yX5_toMove, Cond.instanceMethod yX5_toMove, Cond.selects RX5 yX5_toMove yX5_toMove, Cond.code yX5_toMove cX5_toMove 4 (some .int), Cond.methodLink RX5 149 yX5_leastMoveFor, Cond.instanceMethod yX5_leastMoveFor, Cond.selects RX5 yX5_leastMoveFor yX5_leastMoveFor]
def wsL_law_r21 : List Cond := [Cond.code yX5_leastMoveFor cX5_leastMoveFor 3 (some .int), Cond.methodLink RX5 212 yX5_isMove, Cond.instanceMethod yX5_isMove, Cond.selects RX5 yX5_isMove yX5_isMove, Cond.code yX5_isMove cX5_isMove 5 (some .boolean), Cond.methodLink RX5 215 yX5_endAfterMove, Cond.instanceMethod yX5_endAfterMove, Cond.selects RX5 yX5_endAfterMove yX5_endAfterMove, Cond.code yX5_endAfterMove cX5_endAfterMove 3 (some .int), Cond.methodLink RX5 152 yX5_figuresOf, Cond.static yX5_figuresOf, Cond.code yX5_figuresOf cX5_figuresOf 3 (some .int), Cond.methodLink RL 84 yX6_toMove, Cond.instanceMethod yX6_toMove, Cond.selects RX6 yX6_toMove yX6_toMove, Cond.code yX6_toMove cX6_toMove 5 (some .int), Cond.methodLink RX6 149 yX6_tenTo, Cond.static yX6_tenTo, Cond.code yX6_tenTo cX6_tenTo 3 (some .int), Cond.methodLink RX6 152 yX6_isMove, Cond.instanceMethod yX6_isMove, Cond.selects RX6 yX6_isMove yX6_isMove, Cond.code yX6_isMove cX6_isMove 7 (some .boolean), Cond.methodLink RL 85 yX5_judge]
def wsL_law_r22 : List Cond := [Cond.instanceMethod yX5_judge, Cond.selects RX5 yX5_judge yX5_judge, Cond.code yX5_judge cX5_judge 7 (some .int), Cond.fieldLink RX5 155 "HungryJury" "HUNDREDS" "[I", Cond.methodLink RL 88 yX6_judge, Cond.instanceMethod yX6_judge, Cond.selects RX6 yX6_judge yX6_judge, Cond.code yX6_judge cX6_judge 5 (some .int), Cond.constantLong RX6 156 (4), Cond.methodLink RX6 158 yX6_tryThing, Cond.instanceMethod yX6_tryThing, Cond.selects RX6 yX6_tryThing yX6_tryThing, Cond.code yX6_tryThing cX6_tryThing 5 (some .boolean), Cond.methodLink RL 89 yX5_see, Cond.instanceMethod yX5_see, Cond.selects RX5 yX5_see yX5_see, Cond.code yX5_see cX5_see 4 (some .int), Cond.fieldLink RX5 169 "HungryJury$Sights" "size" "I", Cond.methodLink RX5 166 yX3_add, Cond.instanceMethod yX3_add, Cond.selects RX3 yX3_add yX3_add, Cond.code yX3_add cX3_add 4 (some .boolean), Cond.fieldLink RX3 21 "HungryJury$Sights" "size" "I", Cond.methodLink RL 93 yX6_see]
def wsL_law_r23 : List Cond := [Cond.instanceMethod yX6_see, Cond.selects RX6 yX6_see yX6_see, Cond.code yX6_see cX6_see 4 (some .int), Cond.fieldLink RX6 161 "HungryJuryModel" "seen" "I", Cond.methodLink RL 94 yX5_unsee, Cond.instanceMethod yX5_unsee, Cond.selects RX5 yX5_unsee yX5_unsee, Cond.code yX5_unsee cX5_unsee 2 (some .int), Cond.methodLink RL 97 yX6_unsee, Cond.instanceMethod yX6_unsee, Cond.selects RX6 yX6_unsee yX6_unsee, Cond.code yX6_unsee cX6_unsee 2 (some .int), Cond.methodLink RL 98 yX5_first, Cond.instanceMethod yX5_first, Cond.selects RX5 yX5_first yX5_first, Cond.code yX5_first cX5_first 6 (some .int), Cond.methodLink RX5 170 yX5_fitsWhatIsSeen, Cond.instanceMethod yX5_fitsWhatIsSeen, Cond.selects RX5 yX5_fitsWhatIsSeen yX5_fitsWhatIsSeen, Cond.code yX5_fitsWhatIsSeen cX5_fitsWhatIsSeen 3 (some .boolean), Cond.fieldLink RX5 218 "HungryJury$Room" "yes" "I", Cond.methodLink RX5 221 yX3_fit, Cond.instanceMethod yX3_fit, Cond.selects RX3 yX3_fit yX3_fit]
def wsL_law_r24 : List Cond := [Cond.code yX3_fit cX3_fit 5 (some .boolean), Cond.methodLink RX3 25 yX2_isThere, Cond.methodLink RX3 31 yX2_isYes, Cond.methodLink RL 101 yX6_first, Cond.instanceMethod yX6_first, Cond.selects RX6 yX6_first yX6_first, Cond.code yX6_first cX6_first 6 (some .int), Cond.constantLong RX6 170 (2), Cond.methodLink RX6 172 yX6_mayBe, Cond.instanceMethod yX6_mayBe, Cond.selects RX6 yX6_mayBe yX6_mayBe, Cond.code yX6_mayBe cX6_mayBe 4 (some .boolean), Cond.methodLink RX6 164 yX6_layYes, Cond.instanceMethod yX6_layYes, Cond.selects RX6 yX6_layYes yX6_layYes, Cond.code yX6_layYes cX6_layYes 2 none, Cond.methodLink RX6 167 yX6_isSeen, Cond.instanceMethod yX6_isSeen, Cond.selects RX6 yX6_isSeen yX6_isSeen, Cond.code yX6_isSeen cX6_isSeen 5 (some .boolean), Cond.methodLink RL 102 yX5_share, Cond.instanceMethod yX5_share, Cond.selects RX5 yX5_share yX5_share, Cond.code yX5_share cX5_share 7 (some .int)]
def wsL_law_r25 : List Cond := [Cond.methodLink RX5 173 yX5_partOfFraction, Cond.static yX5_partOfFraction, Cond.code yX5_partOfFraction cX5_partOfFraction 4 (some .int), Cond.methodLink RX5 228 Lib.Math.abs.name, Cond.static Lib.Math.abs.name, Cond.code Lib.Math.abs.name Lib.Math.abs.code 1 (some .int), Cond.methodLink RX5 233 yX5_commonDivisor, Cond.static yX5_commonDivisor, Cond.code yX5_commonDivisor cX5_commonDivisor 6 (some .int), Cond.methodLink RX5 177 yX5_endIsYesFrom, Cond.instanceMethod yX5_endIsYesFrom, Cond.selects RX5 yX5_endIsYesFrom yX5_endIsYesFrom, Cond.code yX5_endIsYesFrom cX5_endIsYesFrom 2 (some .int), Cond.methodLink RX5 180 yX5_ordersWith, Cond.static yX5_ordersWith, Cond.code yX5_ordersWith cX5_ordersWith 2 (some .int), Cond.methodLink RX5 183 yX5_factorial, Cond.static yX5_factorial, Cond.code yX5_factorial cX5_factorial 1 (some .int), Cond.fieldLink RX5 225 "HungryJury" "FACTORIALS" "[I", Cond.methodLink RL 105 yX6_share, Cond.instanceMethod yX6_share, Cond.selects RX6 yX6_share yX6_share, Cond.code yX6_share cX6_share 7 (some .int)]
def wsL_law_r26 : List Cond := [Cond.methodLink RX6 175 yX6_factorial, Cond.static yX6_factorial, Cond.code yX6_factorial cX6_factorial 3 (some .int), Cond.methodLink RX6 178 yX6_endOf, Cond.instanceMethod yX6_endOf, Cond.selects RX6 yX6_endOf yX6_endOf, Cond.code yX6_endOf cX6_endOf 2 (some .int), Cond.methodLink RX6 181 yX6_common, Cond.static yX6_common, Cond.code yX6_common cX6_common 5 (some .int), Cond.methodLink RL 106 yX5_rests, Cond.instanceMethod yX5_rests, Cond.selects RX5 yX5_rests yX5_rests, Cond.code yX5_rests cX5_rests 8 (some .int), Cond.methodLink RX5 186 yX5_isBestWait, Cond.instanceMethod yX5_isBestWait, Cond.selects RX5 yX5_isBestWait yX5_isBestWait, Cond.code yX5_isBestWait cX5_isBestWait 7 (some .boolean), Cond.methodLink RX5 236 yX5_lossOf, Cond.instanceMethod yX5_lossOf, Cond.selects RX5 yX5_lossOf yX5_lossOf, Cond.code yX5_lossOf cX5_lossOf 7 (some .int), Cond.methodLink RX5 240 Lib.Math.min.name, Cond.methodLink RL 109 yX6_rests]
def wsL_law_r27 : List Cond := [Cond.instanceMethod yX6_rests, Cond.selects RX6 yX6_rests yX6_rests, Cond.code yX6_rests cX6_rests 7 (some .int), Cond.methodLink RX6 189 yX6_isRest, Cond.instanceMethod yX6_isRest, Cond.selects RX6 yX6_isRest yX6_isRest, Cond.code yX6_isRest cX6_isRest 7 (some .boolean), Cond.methodLink RX6 185 yX6_loses, Cond.instanceMethod yX6_loses, Cond.selects RX6 yX6_loses yX6_loses, Cond.code yX6_loses cX6_loses 7 (some .int), Cond.methodLink RL 110 yX5_coins, Cond.instanceMethod yX5_coins, Cond.selects RX5 yX5_coins yX5_coins, Cond.code yX5_coins cX5_coins 7 (some .int), Cond.methodLink RX5 190 yX5_power, Cond.static yX5_power, Cond.code yX5_power cX5_power 4 (some .int), Cond.methodLink RL 114 yX6_coins, Cond.instanceMethod yX6_coins, Cond.selects RX6 yX6_coins yX6_coins, Cond.code yX6_coins cX6_coins 9 (some .int), Cond.constantLong RX6 193 (10), Cond.methodLink RX6 195 yX6_power]
def wsL_law_r28 : List Cond := [Cond.static yX6_power, Cond.code yX6_power cX6_power 4 (some .int), Cond.methodLink RL 117 yX5_seed, Cond.instanceMethod yX5_seed, Cond.selects RX5 yX5_seed yX5_seed, Cond.code yX5_seed cX5_seed 5 (some .long), Cond.fieldLink RX5 196 "HungryJury" "theSeed" "J", Cond.methodLink RL 121 yX6_seed, Cond.instanceMethod yX6_seed, Cond.selects RX6 yX6_seed yX6_seed, Cond.code yX6_seed cX6_seed 5 (some .long), Cond.fieldLink RX6 198 "HungryJuryModel" "seed" "J", Cond.methodLink RL 122 yX5_assizes, Cond.instanceMethod yX5_assizes, Cond.selects RX5 yX5_assizes yX5_assizes, Cond.code yX5_assizes cX5_assizes 5 (some .int), Cond.constantLong RX5 200 (6364136223846793005), Cond.constantLong RX5 202 (1442695040888963407), Cond.constantLong RX5 204 (9), Cond.methodLink RL 125 yX6_assizes, Cond.instanceMethod yX6_assizes, Cond.selects RX6 yX6_assizes yX6_assizes, Cond.code yX6_assizes cX6_assizes 5 (some .int), Cond.constantLong RX6 202 (20)]
def wsL_law_r29 : List Cond := [Cond.constantLong RX6 204 (6364136223846793005), Cond.constantLong RX6 206 (1442695040888963407), Cond.methodLink RL 126 yX5_keep, Cond.instanceMethod yX5_keep, Cond.selects RX5 yX5_keep yX5_keep, Cond.code yX5_keep cX5_keep 2 (some .int), Cond.fieldLink RX5 206 "HungryJury$Room" "theHour" "I", Cond.methodLink RL 129 yX6_keep, Cond.instanceMethod yX6_keep, Cond.selects RX6 yX6_keep yX6_keep, Cond.code yX6_keep cX6_keep 3 (some .int), Cond.methodLink RL 130 yX5_again, Cond.instanceMethod yX5_again, Cond.selects RX5 yX5_again yX5_again, Cond.code yX5_again cX5_again 2 (some .int), Cond.methodLink RL 133 yX6_again, Cond.instanceMethod yX6_again, Cond.selects RX6 yX6_again yX6_again, Cond.code yX6_again cX6_again 3 (some .int), Cond.methodLink RL 134 yX5_count, Cond.instanceMethod yX5_count, Cond.selects RX5 yX5_count yX5_count, Cond.code yX5_count cX5_count 2 (some .int), Cond.fieldLink RX5 209 "HungryJury$Panel" "need" "I"]
def wsL_law_r30 : List Cond := [Cond.methodLink RL 137 yX6_count, Cond.instanceMethod yX6_count, Cond.selects RX6 yX6_count yX6_count, Cond.code yX6_count cX6_count 2 (some .int)]
def wsL_law : List Cond := (wsL_law_r1 ++ (wsL_law_r2 ++ (wsL_law_r3 ++ (wsL_law_r4 ++ (wsL_law_r5 ++ (wsL_law_r6 ++ (wsL_law_r7 ++ (wsL_law_r8 ++ (wsL_law_r9 ++ (wsL_law_r10 ++ (wsL_law_r11 ++ (wsL_law_r12 ++ (wsL_law_r13 ++ (wsL_law_r14 ++ (wsL_law_r15 ++ (wsL_law_r16 ++ (wsL_law_r17 ++ (wsL_law_r18 ++ (wsL_law_r19 ++ (wsL_law_r20 ++ (wsL_law_r21 ++ (wsL_law_r22 ++ (wsL_law_r23 ++ (wsL_law_r24 ++ (wsL_law_r25 ++ (wsL_law_r26 ++ (wsL_law_r27 ++ (wsL_law_r28 ++ (wsL_law_r29 ++ wsL_law_r30))))))))))))))))))))))))))))) ++ wsX50 ++ wsX60 ++ wsX40 ++ wsX10 ++ wsX20 ++ wsX00 ++ wsX30 ++ ([] : List Cond)
theorem inlX0 : ∀ w ∈ wsX00, w ∈ wsL_law := fun _ h => List.mem_append_left _ (List.mem_append_left _ (List.mem_append_right _ h))
theorem inlX1 : ∀ w ∈ wsX10, w ∈ wsL_law := fun _ h => List.mem_append_left _ (List.mem_append_left _ (List.mem_append_left _ (List.mem_append_left _ (List.mem_append_right _ h))))
theorem inlX2 : ∀ w ∈ wsX20, w ∈ wsL_law := fun _ h => List.mem_append_left _ (List.mem_append_left _ (List.mem_append_left _ (List.mem_append_right _ h)))
theorem inlX3 : ∀ w ∈ wsX30, w ∈ wsL_law := fun _ h => List.mem_append_left _ (List.mem_append_right _ h)
theorem inlX4 : ∀ w ∈ wsX40, w ∈ wsL_law := fun _ h => List.mem_append_left _ (List.mem_append_left _ (List.mem_append_left _ (List.mem_append_left _ (List.mem_append_left _ (List.mem_append_right _ h)))))
theorem inlX5 : ∀ w ∈ wsX50, w ∈ wsL_law := fun _ h => List.mem_append_left _ (List.mem_append_left _ (List.mem_append_left _ (List.mem_append_left _ (List.mem_append_left _ (List.mem_append_left _ (List.mem_append_left _ (List.mem_append_right _ h)))))))
theorem inlX6 : ∀ w ∈ wsX60, w ∈ wsL_law := fun _ h => List.mem_append_left _ (List.mem_append_left _ (List.mem_append_left _ (List.mem_append_left _ (List.mem_append_left _ (List.mem_append_left _ (List.mem_append_right _ h))))))
theorem inJ6 : ∀ w ∈ wsJ60, w ∈ lw_tbl := by decide +kernel
theorem inJ9 : ∀ w ∈ wsJ90, w ∈ lw_tbl := by decide +kernel
abbrev vwCl : List vw_C := [(RX0, TX0, 2), (RX1, TX1, 6), (RX2, TX2, 6), (RX3, TX3, 4), (RX4, TX4, 2), (RX5, TX5, 10), (RX6, TX6, 24)]
end
section
theorem dJ6_bitCount_0f7a4_0 : decode cJ6_bitCount_0f7a4 0 = .ok (.iload_n 0, 1) := by decide +kernel
theorem dJ6_bitCount_0f7a4_1 : decode cJ6_bitCount_0f7a4 1 = .ok (.iload_n 0, 1) := by decide +kernel
theorem dJ6_bitCount_0f7a4_2 : decode cJ6_bitCount_0f7a4 2 = .ok (.iconst 1, 1) := by decide +kernel
theorem dJ6_bitCount_0f7a4_3 : decode cJ6_bitCount_0f7a4 3 = .ok (.iushr, 1) := by decide +kernel
theorem dJ6_bitCount_0f7a4_4 : decode cJ6_bitCount_0f7a4 4 = .ok (.ldc_w 265, 3) := by decide +kernel
theorem dJ6_bitCount_0f7a4_7 : decode cJ6_bitCount_0f7a4 7 = .ok (.iand, 1) := by decide +kernel
theorem dJ6_bitCount_0f7a4_8 : decode cJ6_bitCount_0f7a4 8 = .ok (.isub, 1) := by decide +kernel
theorem dJ6_bitCount_0f7a4_9 : decode cJ6_bitCount_0f7a4 9 = .ok (.istore_n 0, 1) := by decide +kernel
theorem dJ6_bitCount_0f7a4_10 : decode cJ6_bitCount_0f7a4 10 = .ok (.iload_n 0, 1) := by decide +kernel
theorem dJ6_bitCount_0f7a4_11 : decode cJ6_bitCount_0f7a4 11 = .ok (.ldc_w 266, 3) := by decide +kernel
theorem dJ6_bitCount_0f7a4_14 : decode cJ6_bitCount_0f7a4 14 = .ok (.iand, 1) := by decide +kernel
theorem dJ6_bitCount_0f7a4_15 : decode cJ6_bitCount_0f7a4 15 = .ok (.iload_n 0, 1) := by decide +kernel
theorem dJ6_bitCount_0f7a4_16 : decode cJ6_bitCount_0f7a4 16 = .ok (.iconst 2, 1) := by decide +kernel
theorem dJ6_bitCount_0f7a4_17 : decode cJ6_bitCount_0f7a4 17 = .ok (.iushr, 1) := by decide +kernel
theorem dJ6_bitCount_0f7a4_18 : decode cJ6_bitCount_0f7a4 18 = .ok (.ldc_w 266, 3) := by decide +kernel
theorem dJ6_bitCount_0f7a4_21 : decode cJ6_bitCount_0f7a4 21 = .ok (.iand, 1) := by decide +kernel
theorem dJ6_bitCount_0f7a4_22 : decode cJ6_bitCount_0f7a4 22 = .ok (.iadd, 1) := by decide +kernel
theorem dJ6_bitCount_0f7a4_23 : decode cJ6_bitCount_0f7a4 23 = .ok (.istore_n 0, 1) := by decide +kernel
theorem dJ6_bitCount_0f7a4_24 : decode cJ6_bitCount_0f7a4 24 = .ok (.iload_n 0, 1) := by decide +kernel
theorem dJ6_bitCount_0f7a4_25 : decode cJ6_bitCount_0f7a4 25 = .ok (.iload_n 0, 1) := by decide +kernel
theorem dJ6_bitCount_0f7a4_26 : decode cJ6_bitCount_0f7a4 26 = .ok (.iconst 4, 1) := by decide +kernel
theorem dJ6_bitCount_0f7a4_27 : decode cJ6_bitCount_0f7a4 27 = .ok (.iushr, 1) := by decide +kernel
theorem dJ6_bitCount_0f7a4_28 : decode cJ6_bitCount_0f7a4 28 = .ok (.iadd, 1) := by decide +kernel
theorem dJ6_bitCount_0f7a4_29 : decode cJ6_bitCount_0f7a4 29 = .ok (.ldc_w 267, 3) := by decide +kernel
theorem dJ6_bitCount_0f7a4_32 : decode cJ6_bitCount_0f7a4 32 = .ok (.iand, 1) := by decide +kernel
theorem dJ6_bitCount_0f7a4_33 : decode cJ6_bitCount_0f7a4 33 = .ok (.istore_n 0, 1) := by decide +kernel
theorem dJ6_bitCount_0f7a4_34 : decode cJ6_bitCount_0f7a4 34 = .ok (.iload_n 0, 1) := by decide +kernel
theorem dJ6_bitCount_0f7a4_35 : decode cJ6_bitCount_0f7a4 35 = .ok (.iload_n 0, 1) := by decide +kernel
theorem dJ6_bitCount_0f7a4_36 : decode cJ6_bitCount_0f7a4 36 = .ok (.bipush 8, 2) := by decide +kernel
theorem dJ6_bitCount_0f7a4_38 : decode cJ6_bitCount_0f7a4 38 = .ok (.iushr, 1) := by decide +kernel
theorem dJ6_bitCount_0f7a4_39 : decode cJ6_bitCount_0f7a4 39 = .ok (.iadd, 1) := by decide +kernel
theorem dJ6_bitCount_0f7a4_40 : decode cJ6_bitCount_0f7a4 40 = .ok (.istore_n 0, 1) := by decide +kernel
theorem dJ6_bitCount_0f7a4_41 : decode cJ6_bitCount_0f7a4 41 = .ok (.iload_n 0, 1) := by decide +kernel
theorem dJ6_bitCount_0f7a4_42 : decode cJ6_bitCount_0f7a4 42 = .ok (.iload_n 0, 1) := by decide +kernel
theorem dJ6_bitCount_0f7a4_43 : decode cJ6_bitCount_0f7a4 43 = .ok (.bipush 16, 2) := by decide +kernel
theorem dJ6_bitCount_0f7a4_45 : decode cJ6_bitCount_0f7a4 45 = .ok (.iushr, 1) := by decide +kernel
theorem dJ6_bitCount_0f7a4_46 : decode cJ6_bitCount_0f7a4 46 = .ok (.iadd, 1) := by decide +kernel
theorem dJ6_bitCount_0f7a4_47 : decode cJ6_bitCount_0f7a4 47 = .ok (.istore_n 0, 1) := by decide +kernel
theorem dJ6_bitCount_0f7a4_48 : decode cJ6_bitCount_0f7a4 48 = .ok (.iload_n 0, 1) := by decide +kernel
theorem dJ6_bitCount_0f7a4_49 : decode cJ6_bitCount_0f7a4 49 = .ok (.bipush 63, 2) := by decide +kernel
theorem dJ6_bitCount_0f7a4_51 : decode cJ6_bitCount_0f7a4 51 = .ok (.iand, 1) := by decide +kernel
theorem dJ6_bitCount_0f7a4_52 : decode cJ6_bitCount_0f7a4 52 = .ok (.ireturn, 1) := by decide +kernel
theorem dJ9_abs_0f7a4_0 : decode cJ9_abs_0f7a4 0 = .ok (.iload_n 0, 1) := by decide +kernel
theorem dJ9_abs_0f7a4_1 : decode cJ9_abs_0f7a4 1 = .ok (.ifCond .ge 8, 3) := by decide +kernel
theorem dJ9_abs_0f7a4_4 : decode cJ9_abs_0f7a4 4 = .ok (.iload_n 0, 1) := by decide +kernel
theorem dJ9_abs_0f7a4_5 : decode cJ9_abs_0f7a4 5 = .ok (.ineg, 1) := by decide +kernel
theorem dJ9_abs_0f7a4_6 : decode cJ9_abs_0f7a4 6 = .ok (.goto 4, 3) := by decide +kernel
theorem dJ9_abs_0f7a4_9 : decode cJ9_abs_0f7a4 9 = .ok (.iload_n 0, 1) := by decide +kernel
theorem dJ9_abs_0f7a4_10 : decode cJ9_abs_0f7a4 10 = .ok (.ireturn, 1) := by decide +kernel
theorem dJ9_max_7cf53_0 : decode cJ9_max_7cf53 0 = .ok (.iload_n 0, 1) := by decide +kernel
theorem dJ9_max_7cf53_1 : decode cJ9_max_7cf53 1 = .ok (.iload_n 1, 1) := by decide +kernel
theorem dJ9_max_7cf53_2 : decode cJ9_max_7cf53 2 = .ok (.if_icmp .lt 7, 3) := by decide +kernel
theorem dJ9_max_7cf53_5 : decode cJ9_max_7cf53 5 = .ok (.iload_n 0, 1) := by decide +kernel
theorem dJ9_max_7cf53_6 : decode cJ9_max_7cf53 6 = .ok (.goto 4, 3) := by decide +kernel
theorem dJ9_max_7cf53_9 : decode cJ9_max_7cf53 9 = .ok (.iload_n 1, 1) := by decide +kernel
theorem dJ9_max_7cf53_10 : decode cJ9_max_7cf53 10 = .ok (.ireturn, 1) := by decide +kernel
theorem dJ9_min_7cf53_0 : decode cJ9_min_7cf53 0 = .ok (.iload_n 0, 1) := by decide +kernel
theorem dJ9_min_7cf53_1 : decode cJ9_min_7cf53 1 = .ok (.iload_n 1, 1) := by decide +kernel
theorem dJ9_min_7cf53_2 : decode cJ9_min_7cf53 2 = .ok (.if_icmp .gt 7, 3) := by decide +kernel
theorem dJ9_min_7cf53_5 : decode cJ9_min_7cf53 5 = .ok (.iload_n 0, 1) := by decide +kernel
theorem dJ9_min_7cf53_6 : decode cJ9_min_7cf53 6 = .ok (.goto 4, 3) := by decide +kernel
theorem dJ9_min_7cf53_9 : decode cJ9_min_7cf53 9 = .ok (.iload_n 1, 1) := by decide +kernel
theorem dJ9_min_7cf53_10 : decode cJ9_min_7cf53 10 = .ok (.ireturn, 1) := by decide +kernel
set_option maxRecDepth 20000 in
theorem ggX0_init_X2_init : GoodIn wsX0_init wsX2_init := goodIn_r _ [10, 11, 2, 3, 12, 13, 14, 15, 18, 19, 20, 21, 22, 23] (by decide +kernel) (by decide +kernel)
set_option maxRecDepth 20000 in
theorem gX0_init_X2_init : GoodIn wsX0_init (wsX2_init) := ggX0_init_X2_init
theorem dX0_init_0 : decode cX0_init 0 = .ok (.aload_n 0, 1) := by decide +kernel
theorem dX0_init_1 : decode cX0_init 1 = .ok (.invokespecial 3, 3) := by decide +kernel
theorem dX0_init_4 : decode cX0_init 4 = .ok (.aload_n 0, 1) := by decide +kernel
theorem dX0_init_5 : decode cX0_init 5 = .ok (.bipush 14, 2) := by decide +kernel
theorem dX0_init_7 : decode cX0_init 7 = .ok (.anewarray 9, 3) := by decide +kernel
theorem dX0_init_10 : decode cX0_init 10 = .ok (.putfield 11, 3) := by decide +kernel
theorem dX0_init_13 : decode cX0_init 13 = .ok (.iconst 0, 1) := by decide +kernel
theorem dX0_init_14 : decode cX0_init 14 = .ok (.istore_n 2, 1) := by decide +kernel
theorem dX0_init_15 : decode cX0_init 15 = .ok (.iload_n 2, 1) := by decide +kernel
theorem dX0_init_16 : decode cX0_init 16 = .ok (.bipush 14, 2) := by decide +kernel
theorem dX0_init_18 : decode cX0_init 18 = .ok (.if_icmp .ge 23, 3) := by decide +kernel
theorem dX0_init_21 : decode cX0_init 21 = .ok (.aload_n 0, 1) := by decide +kernel
theorem dX0_init_22 : decode cX0_init 22 = .ok (.getfield 11, 3) := by decide +kernel
theorem dX0_init_25 : decode cX0_init 25 = .ok (.iload_n 2, 1) := by decide +kernel
theorem dX0_init_26 : decode cX0_init 26 = .ok (.new 9, 3) := by decide +kernel
theorem dX0_init_29 : decode cX0_init 29 = .ok (.dup, 1) := by decide +kernel
theorem dX0_init_30 : decode cX0_init 30 = .ok (.aload_n 1, 1) := by decide +kernel
theorem dX0_init_31 : decode cX0_init 31 = .ok (.invokespecial 17, 3) := by decide +kernel
theorem dX0_init_34 : decode cX0_init 34 = .ok (.aastore, 1) := by decide +kernel
theorem dX0_init_35 : decode cX0_init 35 = .ok (.iinc 2 1, 3) := by decide +kernel
theorem dX0_init_38 : decode cX0_init 38 = .ok (.goto (-23), 3) := by decide +kernel
theorem dX0_init_41 : decode cX0_init 41 = .ok (.return_, 1) := by decide +kernel
set_option maxRecDepth 20000 in
theorem ggX0_remember_X0_forgetOldest : GoodIn wsX0_remember wsX0_forgetOldest := goodIn_r _ [7, 2, 1, 18, 19] (by decide +kernel) (by decide +kernel)
set_option maxRecDepth 20000 in
theorem gX0_remember_X0_forgetOldest : GoodIn wsX0_remember (wsV RX0 24 RX0 yX0_forgetOldest wsX0_forgetOldest) := goodIn_app (goodIn_of _ (by decide +kernel)) ggX0_remember_X0_forgetOldest
set_option maxRecDepth 20000 in
theorem ggX0_remember_X2_copyFrom : GoodIn wsX0_remember wsX2_copyFrom := goodIn_r _ [12, 13, 14, 15, 16, 17, 20, 21, 22, 23, 24, 25] (by decide +kernel) (by decide +kernel)
set_option maxRecDepth 20000 in
theorem gX0_remember_X2_copyFrom : GoodIn wsX0_remember (wsV RX0 27 RX2 yX2_copyFrom wsX2_copyFrom) := goodIn_app (goodIn_of _ (by decide +kernel)) ggX0_remember_X2_copyFrom
theorem dX0_remember_0 : decode cX0_remember 0 = .ok (.aload_n 0, 1) := by decide +kernel
theorem dX0_remember_1 : decode cX0_remember 1 = .ok (.getfield 20, 3) := by decide +kernel
theorem dX0_remember_4 : decode cX0_remember 4 = .ok (.bipush 14, 2) := by decide +kernel
theorem dX0_remember_6 : decode cX0_remember 6 = .ok (.if_icmp .lt 7, 3) := by decide +kernel
theorem dX0_remember_9 : decode cX0_remember 9 = .ok (.aload_n 0, 1) := by decide +kernel
theorem dX0_remember_10 : decode cX0_remember 10 = .ok (.invokevirtual 24, 3) := by decide +kernel
theorem dX0_remember_13 : decode cX0_remember 13 = .ok (.aload_n 0, 1) := by decide +kernel
theorem dX0_remember_14 : decode cX0_remember 14 = .ok (.getfield 20, 3) := by decide +kernel
theorem dX0_remember_17 : decode cX0_remember 17 = .ok (.ifCond .lt 35, 3) := by decide +kernel
theorem dX0_remember_20 : decode cX0_remember 20 = .ok (.aload_n 0, 1) := by decide +kernel
theorem dX0_remember_21 : decode cX0_remember 21 = .ok (.getfield 20, 3) := by decide +kernel
theorem dX0_remember_24 : decode cX0_remember 24 = .ok (.bipush 14, 2) := by decide +kernel
theorem dX0_remember_26 : decode cX0_remember 26 = .ok (.if_icmp .ge 26, 3) := by decide +kernel
theorem dX0_remember_29 : decode cX0_remember 29 = .ok (.aload_n 0, 1) := by decide +kernel
theorem dX0_remember_30 : decode cX0_remember 30 = .ok (.getfield 11, 3) := by decide +kernel
theorem dX0_remember_33 : decode cX0_remember 33 = .ok (.aload_n 0, 1) := by decide +kernel
theorem dX0_remember_34 : decode cX0_remember 34 = .ok (.getfield 20, 3) := by decide +kernel
theorem dX0_remember_37 : decode cX0_remember 37 = .ok (.aaload, 1) := by decide +kernel
theorem dX0_remember_38 : decode cX0_remember 38 = .ok (.aload_n 1, 1) := by decide +kernel
theorem dX0_remember_39 : decode cX0_remember 39 = .ok (.invokevirtual 27, 3) := by decide +kernel
theorem dX0_remember_42 : decode cX0_remember 42 = .ok (.aload_n 0, 1) := by decide +kernel
theorem dX0_remember_43 : decode cX0_remember 43 = .ok (.dup, 1) := by decide +kernel
theorem dX0_remember_44 : decode cX0_remember 44 = .ok (.getfield 20, 3) := by decide +kernel
theorem dX0_remember_47 : decode cX0_remember 47 = .ok (.iconst 1, 1) := by decide +kernel
theorem dX0_remember_48 : decode cX0_remember 48 = .ok (.iadd, 1) := by decide +kernel
theorem dX0_remember_49 : decode cX0_remember 49 = .ok (.putfield 20, 3) := by decide +kernel
theorem dX0_remember_52 : decode cX0_remember 52 = .ok (.return_, 1) := by decide +kernel
theorem dX0_forgetOldest_0 : decode cX0_forgetOldest 0 = .ok (.aload_n 0, 1) := by decide +kernel
theorem dX0_forgetOldest_1 : decode cX0_forgetOldest 1 = .ok (.getfield 11, 3) := by decide +kernel
theorem dX0_forgetOldest_4 : decode cX0_forgetOldest 4 = .ok (.iconst 0, 1) := by decide +kernel
theorem dX0_forgetOldest_5 : decode cX0_forgetOldest 5 = .ok (.aaload, 1) := by decide +kernel
theorem dX0_forgetOldest_6 : decode cX0_forgetOldest 6 = .ok (.astore_n 1, 1) := by decide +kernel
theorem dX0_forgetOldest_7 : decode cX0_forgetOldest 7 = .ok (.iconst 1, 1) := by decide +kernel
theorem dX0_forgetOldest_8 : decode cX0_forgetOldest 8 = .ok (.istore_n 2, 1) := by decide +kernel
theorem dX0_forgetOldest_9 : decode cX0_forgetOldest 9 = .ok (.iload_n 2, 1) := by decide +kernel
theorem dX0_forgetOldest_10 : decode cX0_forgetOldest 10 = .ok (.bipush 14, 2) := by decide +kernel
theorem dX0_forgetOldest_12 : decode cX0_forgetOldest 12 = .ok (.if_icmp .ge 23, 3) := by decide +kernel
theorem dX0_forgetOldest_15 : decode cX0_forgetOldest 15 = .ok (.aload_n 0, 1) := by decide +kernel
theorem dX0_forgetOldest_16 : decode cX0_forgetOldest 16 = .ok (.getfield 11, 3) := by decide +kernel
theorem dX0_forgetOldest_19 : decode cX0_forgetOldest 19 = .ok (.iload_n 2, 1) := by decide +kernel
theorem dX0_forgetOldest_20 : decode cX0_forgetOldest 20 = .ok (.iconst 1, 1) := by decide +kernel
theorem dX0_forgetOldest_21 : decode cX0_forgetOldest 21 = .ok (.isub, 1) := by decide +kernel
theorem dX0_forgetOldest_22 : decode cX0_forgetOldest 22 = .ok (.aload_n 0, 1) := by decide +kernel
theorem dX0_forgetOldest_23 : decode cX0_forgetOldest 23 = .ok (.getfield 11, 3) := by decide +kernel
theorem dX0_forgetOldest_26 : decode cX0_forgetOldest 26 = .ok (.iload_n 2, 1) := by decide +kernel
theorem dX0_forgetOldest_27 : decode cX0_forgetOldest 27 = .ok (.aaload, 1) := by decide +kernel
theorem dX0_forgetOldest_28 : decode cX0_forgetOldest 28 = .ok (.aastore, 1) := by decide +kernel
theorem dX0_forgetOldest_29 : decode cX0_forgetOldest 29 = .ok (.iinc 2 1, 3) := by decide +kernel
theorem dX0_forgetOldest_32 : decode cX0_forgetOldest 32 = .ok (.goto (-23), 3) := by decide +kernel
theorem dX0_forgetOldest_35 : decode cX0_forgetOldest 35 = .ok (.aload_n 0, 1) := by decide +kernel
theorem dX0_forgetOldest_36 : decode cX0_forgetOldest 36 = .ok (.getfield 11, 3) := by decide +kernel
theorem dX0_forgetOldest_39 : decode cX0_forgetOldest 39 = .ok (.bipush 13, 2) := by decide +kernel
theorem dX0_forgetOldest_41 : decode cX0_forgetOldest 41 = .ok (.aload_n 1, 1) := by decide +kernel
theorem dX0_forgetOldest_42 : decode cX0_forgetOldest 42 = .ok (.aastore, 1) := by decide +kernel
theorem dX0_forgetOldest_43 : decode cX0_forgetOldest 43 = .ok (.aload_n 0, 1) := by decide +kernel
theorem dX0_forgetOldest_44 : decode cX0_forgetOldest 44 = .ok (.bipush 13, 2) := by decide +kernel
theorem dX0_forgetOldest_46 : decode cX0_forgetOldest 46 = .ok (.putfield 20, 3) := by decide +kernel
theorem dX0_forgetOldest_49 : decode cX0_forgetOldest 49 = .ok (.return_, 1) := by decide +kernel
theorem dX0_forgetAll_0 : decode cX0_forgetAll 0 = .ok (.aload_n 0, 1) := by decide +kernel
theorem dX0_forgetAll_1 : decode cX0_forgetAll 1 = .ok (.iconst 0, 1) := by decide +kernel
theorem dX0_forgetAll_2 : decode cX0_forgetAll 2 = .ok (.putfield 20, 3) := by decide +kernel
theorem dX0_forgetAll_5 : decode cX0_forgetAll 5 = .ok (.return_, 1) := by decide +kernel
set_option maxRecDepth 20000 in
theorem ggX0_takeBack_X2_copyFrom : GoodIn wsX0_takeBack wsX2_copyFrom := goodIn_r _ [7, 8, 9, 10, 11, 12, 15, 16, 17, 18, 19, 20] (by decide +kernel) (by decide +kernel)
set_option maxRecDepth 20000 in
theorem gX0_takeBack_X2_copyFrom : GoodIn wsX0_takeBack (wsV RX0 27 RX2 yX2_copyFrom wsX2_copyFrom) := goodIn_app (goodIn_of _ (by decide +kernel)) ggX0_takeBack_X2_copyFrom
theorem dX0_takeBack_0 : decode cX0_takeBack 0 = .ok (.aload_n 0, 1) := by decide +kernel
theorem dX0_takeBack_1 : decode cX0_takeBack 1 = .ok (.getfield 20, 3) := by decide +kernel
theorem dX0_takeBack_4 : decode cX0_takeBack 4 = .ok (.iconst 1, 1) := by decide +kernel
theorem dX0_takeBack_5 : decode cX0_takeBack 5 = .ok (.if_icmp .lt 12, 3) := by decide +kernel
theorem dX0_takeBack_8 : decode cX0_takeBack 8 = .ok (.aload_n 0, 1) := by decide +kernel
theorem dX0_takeBack_9 : decode cX0_takeBack 9 = .ok (.getfield 20, 3) := by decide +kernel
theorem dX0_takeBack_12 : decode cX0_takeBack 12 = .ok (.bipush 14, 2) := by decide +kernel
theorem dX0_takeBack_14 : decode cX0_takeBack 14 = .ok (.if_icmp .le 5, 3) := by decide +kernel
theorem dX0_takeBack_17 : decode cX0_takeBack 17 = .ok (.iconst 0, 1) := by decide +kernel
theorem dX0_takeBack_18 : decode cX0_takeBack 18 = .ok (.ireturn, 1) := by decide +kernel
theorem dX0_takeBack_19 : decode cX0_takeBack 19 = .ok (.aload_n 0, 1) := by decide +kernel
theorem dX0_takeBack_20 : decode cX0_takeBack 20 = .ok (.dup, 1) := by decide +kernel
theorem dX0_takeBack_21 : decode cX0_takeBack 21 = .ok (.getfield 20, 3) := by decide +kernel
theorem dX0_takeBack_24 : decode cX0_takeBack 24 = .ok (.iconst 1, 1) := by decide +kernel
theorem dX0_takeBack_25 : decode cX0_takeBack 25 = .ok (.isub, 1) := by decide +kernel
theorem dX0_takeBack_26 : decode cX0_takeBack 26 = .ok (.putfield 20, 3) := by decide +kernel
theorem dX0_takeBack_29 : decode cX0_takeBack 29 = .ok (.aload_n 1, 1) := by decide +kernel
theorem dX0_takeBack_30 : decode cX0_takeBack 30 = .ok (.aload_n 0, 1) := by decide +kernel
theorem dX0_takeBack_31 : decode cX0_takeBack 31 = .ok (.getfield 11, 3) := by decide +kernel
theorem dX0_takeBack_34 : decode cX0_takeBack 34 = .ok (.aload_n 0, 1) := by decide +kernel
theorem dX0_takeBack_35 : decode cX0_takeBack 35 = .ok (.getfield 20, 3) := by decide +kernel
theorem dX0_takeBack_38 : decode cX0_takeBack 38 = .ok (.aaload, 1) := by decide +kernel
theorem dX0_takeBack_39 : decode cX0_takeBack 39 = .ok (.invokevirtual 27, 3) := by decide +kernel
theorem dX0_takeBack_42 : decode cX0_takeBack 42 = .ok (.iconst 1, 1) := by decide +kernel
theorem dX0_takeBack_43 : decode cX0_takeBack 43 = .ok (.ireturn, 1) := by decide +kernel
theorem dX1_init_0 : decode cX1_init 0 = .ok (.aload_n 0, 1) := by decide +kernel
theorem dX1_init_1 : decode cX1_init 1 = .ok (.invokespecial 3, 3) := by decide +kernel
theorem dX1_init_4 : decode cX1_init 4 = .ok (.aload_n 0, 1) := by decide +kernel
theorem dX1_init_5 : decode cX1_init 5 = .ok (.bipush 6, 2) := by decide +kernel
theorem dX1_init_7 : decode cX1_init 7 = .ok (.newarray .int, 2) := by decide +kernel
theorem dX1_init_9 : decode cX1_init 9 = .ok (.putfield 9, 3) := by decide +kernel
theorem dX1_init_12 : decode cX1_init 12 = .ok (.aload_n 0, 1) := by decide +kernel
theorem dX1_init_13 : decode cX1_init 13 = .ok (.bipush 6, 2) := by decide +kernel
theorem dX1_init_15 : decode cX1_init 15 = .ok (.newarray .int, 2) := by decide +kernel
theorem dX1_init_17 : decode cX1_init 17 = .ok (.putfield 15, 3) := by decide +kernel
theorem dX1_init_20 : decode cX1_init 20 = .ok (.aload_n 0, 1) := by decide +kernel
theorem dX1_init_21 : decode cX1_init 21 = .ok (.bipush 6, 2) := by decide +kernel
theorem dX1_init_23 : decode cX1_init 23 = .ok (.newarray .int, 2) := by decide +kernel
theorem dX1_init_25 : decode cX1_init 25 = .ok (.putfield 18, 3) := by decide +kernel
theorem dX1_init_28 : decode cX1_init 28 = .ok (.aload_n 0, 1) := by decide +kernel
theorem dX1_init_29 : decode cX1_init 29 = .ok (.iconst 1, 1) := by decide +kernel
theorem dX1_init_30 : decode cX1_init 30 = .ok (.putfield 21, 3) := by decide +kernel
theorem dX1_init_33 : decode cX1_init 33 = .ok (.return_, 1) := by decide +kernel
set_option maxRecDepth 20000 in
theorem ggX1_readFrom_X4_letterAt : GoodIn wsX1_readFrom wsX4_letterAt := goodIn_r _ [9, 10, 11, 47, 48] (by decide +kernel) (by decide +kernel)
set_option maxRecDepth 20000 in
theorem gX1_readFrom_X4_letterAt : GoodIn wsX1_readFrom (wsV RX1 31 RX4 yX4_letterAt wsX4_letterAt) := goodIn_app (goodIn_of _ (by decide +kernel)) ggX1_readFrom_X4_letterAt
set_option maxRecDepth 20000 in
theorem ggX1_readFrom_X4_isFigure : GoodIn wsX1_readFrom wsX4_isFigure := goodIn_r _ [15, 16, 6, 7, 8, 9, 10, 11, 47, 48] (by decide +kernel) (by decide +kernel)
set_option maxRecDepth 20000 in
theorem gX1_readFrom_X4_isFigure : GoodIn wsX1_readFrom (wsV RX1 37 RX4 yX4_isFigure wsX4_isFigure) := goodIn_app (goodIn_of _ (by decide +kernel)) ggX1_readFrom_X4_isFigure
set_option maxRecDepth 20000 in
theorem ggX1_readFrom_X4_figureAt : GoodIn wsX1_readFrom wsX4_figureAt := goodIn_r _ [20, 16, 6, 7, 8, 9, 10, 11, 47, 48] (by decide +kernel) (by decide +kernel)
set_option maxRecDepth 20000 in
theorem gX1_readFrom_X4_figureAt : GoodIn wsX1_readFrom (wsV RX1 41 RX4 yX4_figureAt wsX4_figureAt) := goodIn_app (goodIn_of _ (by decide +kernel)) ggX1_readFrom_X4_figureAt
set_option maxRecDepth 20000 in
theorem ggX1_readFrom_X1_readJuror : GoodIn wsX1_readFrom wsX1_readJuror := goodIn_r _ [25, 1, 2, 26, 27, 28, 12, 13, 14, 8, 15, 16, 6, 7, 9, 10, 11, 17, 18, 19, 20, 41, 42, 43, 44, 45, 46, 47, 48] (by decide +kernel) (by decide +kernel)
set_option maxRecDepth 20000 in
theorem gX1_readFrom_X1_readJuror : GoodIn wsX1_readFrom (wsV RX1 47 RX1 yX1_readJuror wsX1_readJuror) := goodIn_app (goodIn_of _ (by decide +kernel)) ggX1_readFrom_X1_readJuror
set_option maxRecDepth 20000 in
theorem ggX1_readFrom_X1_readPair : GoodIn wsX1_readFrom wsX1_readPair := goodIn_r _ [32, 28, 5, 6, 7, 8, 9, 10, 11, 33, 34, 35, 24, 36, 1, 37, 38, 39, 40, 17, 18, 19, 20, 16, 41, 42, 43, 44, 45, 46, 47, 48] (by decide +kernel) (by decide +kernel)
set_option maxRecDepth 20000 in
theorem gX1_readFrom_X1_readPair : GoodIn wsX1_readFrom (wsV RX1 51 RX1 yX1_readPair wsX1_readPair) := goodIn_app (goodIn_of _ (by decide +kernel)) ggX1_readFrom_X1_readPair
theorem dX1_readFrom_0 : decode cX1_readFrom 0 = .ok (.aload_n 0, 1) := by decide +kernel
theorem dX1_readFrom_1 : decode cX1_readFrom 1 = .ok (.iconst 0, 1) := by decide +kernel
theorem dX1_readFrom_2 : decode cX1_readFrom 2 = .ok (.putfield 25, 3) := by decide +kernel
theorem dX1_readFrom_5 : decode cX1_readFrom 5 = .ok (.aload_n 0, 1) := by decide +kernel
theorem dX1_readFrom_6 : decode cX1_readFrom 6 = .ok (.iconst 0, 1) := by decide +kernel
theorem dX1_readFrom_7 : decode cX1_readFrom 7 = .ok (.putfield 28, 3) := by decide +kernel
theorem dX1_readFrom_10 : decode cX1_readFrom 10 = .ok (.aload_n 0, 1) := by decide +kernel
theorem dX1_readFrom_11 : decode cX1_readFrom 11 = .ok (.iconst 1, 1) := by decide +kernel
theorem dX1_readFrom_12 : decode cX1_readFrom 12 = .ok (.putfield 21, 3) := by decide +kernel
theorem dX1_readFrom_15 : decode cX1_readFrom 15 = .ok (.aload_n 1, 1) := by decide +kernel
theorem dX1_readFrom_16 : decode cX1_readFrom 16 = .ok (.iconst 0, 1) := by decide +kernel
theorem dX1_readFrom_17 : decode cX1_readFrom 17 = .ok (.invokevirtual 31, 3) := by decide +kernel
theorem dX1_readFrom_20 : decode cX1_readFrom 20 = .ok (.bipush 74, 2) := by decide +kernel
theorem dX1_readFrom_22 : decode cX1_readFrom 22 = .ok (.if_icmp .eq 5, 3) := by decide +kernel
theorem dX1_readFrom_25 : decode cX1_readFrom 25 = .ok (.iconst 0, 1) := by decide +kernel
theorem dX1_readFrom_26 : decode cX1_readFrom 26 = .ok (.ireturn, 1) := by decide +kernel
theorem dX1_readFrom_27 : decode cX1_readFrom 27 = .ok (.aload_n 1, 1) := by decide +kernel
theorem dX1_readFrom_28 : decode cX1_readFrom 28 = .ok (.iconst 1, 1) := by decide +kernel
theorem dX1_readFrom_29 : decode cX1_readFrom 29 = .ok (.iconst 1, 1) := by decide +kernel
theorem dX1_readFrom_30 : decode cX1_readFrom 30 = .ok (.bipush 6, 2) := by decide +kernel
theorem dX1_readFrom_32 : decode cX1_readFrom 32 = .ok (.invokevirtual 37, 3) := by decide +kernel
theorem dX1_readFrom_35 : decode cX1_readFrom 35 = .ok (.ifCond .ne 5, 3) := by decide +kernel
theorem dX1_readFrom_38 : decode cX1_readFrom 38 = .ok (.iconst 1, 1) := by decide +kernel
theorem dX1_readFrom_39 : decode cX1_readFrom 39 = .ok (.ireturn, 1) := by decide +kernel
theorem dX1_readFrom_40 : decode cX1_readFrom 40 = .ok (.aload_n 0, 1) := by decide +kernel
theorem dX1_readFrom_41 : decode cX1_readFrom 41 = .ok (.aload_n 1, 1) := by decide +kernel
theorem dX1_readFrom_42 : decode cX1_readFrom 42 = .ok (.iconst 1, 1) := by decide +kernel
theorem dX1_readFrom_43 : decode cX1_readFrom 43 = .ok (.invokevirtual 41, 3) := by decide +kernel
theorem dX1_readFrom_46 : decode cX1_readFrom 46 = .ok (.putfield 21, 3) := by decide +kernel
theorem dX1_readFrom_49 : decode cX1_readFrom 49 = .ok (.iconst 2, 1) := by decide +kernel
theorem dX1_readFrom_50 : decode cX1_readFrom 50 = .ok (.istore_n 2, 1) := by decide +kernel
theorem dX1_readFrom_51 : decode cX1_readFrom 51 = .ok (.iload_n 2, 1) := by decide +kernel
theorem dX1_readFrom_52 : decode cX1_readFrom 52 = .ok (.aload_n 1, 1) := by decide +kernel
theorem dX1_readFrom_53 : decode cX1_readFrom 53 = .ok (.getfield 44, 3) := by decide +kernel
theorem dX1_readFrom_56 : decode cX1_readFrom 56 = .ok (.if_icmp .ge 65, 3) := by decide +kernel
theorem dX1_readFrom_59 : decode cX1_readFrom 59 = .ok (.aload_n 1, 1) := by decide +kernel
theorem dX1_readFrom_60 : decode cX1_readFrom 60 = .ok (.iload_n 2, 1) := by decide +kernel
theorem dX1_readFrom_61 : decode cX1_readFrom 61 = .ok (.invokevirtual 31, 3) := by decide +kernel
theorem dX1_readFrom_64 : decode cX1_readFrom 64 = .ok (.bipush 80, 2) := by decide +kernel
theorem dX1_readFrom_66 : decode cX1_readFrom 66 = .ok (.if_icmp .ne 7, 3) := by decide +kernel
theorem dX1_readFrom_69 : decode cX1_readFrom 69 = .ok (.iconst 1, 1) := by decide +kernel
theorem dX1_readFrom_70 : decode cX1_readFrom 70 = .ok (.goto 4, 3) := by decide +kernel
theorem dX1_readFrom_73 : decode cX1_readFrom 73 = .ok (.iconst 0, 1) := by decide +kernel
theorem dX1_readFrom_74 : decode cX1_readFrom 74 = .ok (.istore_n 3, 1) := by decide +kernel
theorem dX1_readFrom_75 : decode cX1_readFrom 75 = .ok (.iload_n 3, 1) := by decide +kernel
theorem dX1_readFrom_76 : decode cX1_readFrom 76 = .ok (.ifCond .eq 12, 3) := by decide +kernel
theorem dX1_readFrom_79 : decode cX1_readFrom 79 = .ok (.aload_n 0, 1) := by decide +kernel
theorem dX1_readFrom_80 : decode cX1_readFrom 80 = .ok (.aload_n 1, 1) := by decide +kernel
theorem dX1_readFrom_81 : decode cX1_readFrom 81 = .ok (.iload_n 2, 1) := by decide +kernel
theorem dX1_readFrom_82 : decode cX1_readFrom 82 = .ok (.invokevirtual 47, 3) := by decide +kernel
theorem dX1_readFrom_85 : decode cX1_readFrom 85 = .ok (.goto 9, 3) := by decide +kernel
theorem dX1_readFrom_88 : decode cX1_readFrom 88 = .ok (.aload_n 0, 1) := by decide +kernel
theorem dX1_readFrom_89 : decode cX1_readFrom 89 = .ok (.aload_n 1, 1) := by decide +kernel
theorem dX1_readFrom_90 : decode cX1_readFrom 90 = .ok (.iload_n 2, 1) := by decide +kernel
theorem dX1_readFrom_91 : decode cX1_readFrom 91 = .ok (.invokevirtual 51, 3) := by decide +kernel
theorem dX1_readFrom_94 : decode cX1_readFrom 94 = .ok (.istore 4, 2) := by decide +kernel
theorem dX1_readFrom_96 : decode cX1_readFrom 96 = .ok (.iload 4, 2) := by decide +kernel
theorem dX1_readFrom_98 : decode cX1_readFrom 98 = .ok (.bipush (-9), 2) := by decide +kernel
theorem dX1_readFrom_100 : decode cX1_readFrom 100 = .ok (.if_icmp .eq 6, 3) := by decide +kernel
theorem dX1_readFrom_103 : decode cX1_readFrom 103 = .ok (.iload 4, 2) := by decide +kernel
theorem dX1_readFrom_105 : decode cX1_readFrom 105 = .ok (.ireturn, 1) := by decide +kernel
theorem dX1_readFrom_106 : decode cX1_readFrom 106 = .ok (.iload_n 2, 1) := by decide +kernel
theorem dX1_readFrom_107 : decode cX1_readFrom 107 = .ok (.iload_n 3, 1) := by decide +kernel
theorem dX1_readFrom_108 : decode cX1_readFrom 108 = .ok (.ifCond .eq 7, 3) := by decide +kernel
theorem dX1_readFrom_111 : decode cX1_readFrom 111 = .ok (.iconst 4, 1) := by decide +kernel
theorem dX1_readFrom_112 : decode cX1_readFrom 112 = .ok (.goto 4, 3) := by decide +kernel
theorem dX1_readFrom_115 : decode cX1_readFrom 115 = .ok (.iconst 3, 1) := by decide +kernel
theorem dX1_readFrom_116 : decode cX1_readFrom 116 = .ok (.iadd, 1) := by decide +kernel
theorem dX1_readFrom_117 : decode cX1_readFrom 117 = .ok (.istore_n 2, 1) := by decide +kernel
theorem dX1_readFrom_118 : decode cX1_readFrom 118 = .ok (.goto (-67), 3) := by decide +kernel
theorem dX1_readFrom_121 : decode cX1_readFrom 121 = .ok (.bipush (-9), 2) := by decide +kernel
theorem dX1_readFrom_123 : decode cX1_readFrom 123 = .ok (.ireturn, 1) := by decide +kernel
set_option maxRecDepth 20000 in
theorem ggX1_readJuror_X4_isFigure : GoodIn wsX1_readJuror wsX4_isFigure := goodIn_r _ [10, 11, 12, 13, 9, 14, 15, 16, 27, 28] (by decide +kernel) (by decide +kernel)
set_option maxRecDepth 20000 in
theorem gX1_readJuror_X4_isFigure : GoodIn wsX1_readJuror (wsV RX1 37 RX4 yX4_isFigure wsX4_isFigure) := goodIn_app (goodIn_of _ (by decide +kernel)) ggX1_readJuror_X4_isFigure
set_option maxRecDepth 20000 in
theorem ggX1_readJuror_X4_figureAt : GoodIn wsX1_readJuror wsX4_figureAt := goodIn_r _ [20, 11, 12, 13, 9, 14, 15, 16, 27, 28] (by decide +kernel) (by decide +kernel)
set_option maxRecDepth 20000 in
theorem gX1_readJuror_X4_figureAt : GoodIn wsX1_readJuror (wsV RX1 41 RX4 yX4_figureAt wsX4_figureAt) := goodIn_app (goodIn_of _ (by decide +kernel)) ggX1_readJuror_X4_figureAt
theorem dX1_readJuror_0 : decode cX1_readJuror 0 = .ok (.aload_n 0, 1) := by decide +kernel
theorem dX1_readJuror_1 : decode cX1_readJuror 1 = .ok (.getfield 25, 3) := by decide +kernel
theorem dX1_readJuror_4 : decode cX1_readJuror 4 = .ok (.ifCond .lt 12, 3) := by decide +kernel
theorem dX1_readJuror_7 : decode cX1_readJuror 7 = .ok (.aload_n 0, 1) := by decide +kernel
theorem dX1_readJuror_8 : decode cX1_readJuror 8 = .ok (.getfield 25, 3) := by decide +kernel
theorem dX1_readJuror_11 : decode cX1_readJuror 11 = .ok (.bipush 6, 2) := by decide +kernel
theorem dX1_readJuror_13 : decode cX1_readJuror 13 = .ok (.if_icmp .lt 5, 3) := by decide +kernel
theorem dX1_readJuror_16 : decode cX1_readJuror 16 = .ok (.iload_n 2, 1) := by decide +kernel
theorem dX1_readJuror_17 : decode cX1_readJuror 17 = .ok (.ireturn, 1) := by decide +kernel
theorem dX1_readJuror_18 : decode cX1_readJuror 18 = .ok (.aload_n 1, 1) := by decide +kernel
theorem dX1_readJuror_19 : decode cX1_readJuror 19 = .ok (.iload_n 2, 1) := by decide +kernel
theorem dX1_readJuror_20 : decode cX1_readJuror 20 = .ok (.iconst 1, 1) := by decide +kernel
theorem dX1_readJuror_21 : decode cX1_readJuror 21 = .ok (.iadd, 1) := by decide +kernel
theorem dX1_readJuror_22 : decode cX1_readJuror 22 = .ok (.iconst 0, 1) := by decide +kernel
theorem dX1_readJuror_23 : decode cX1_readJuror 23 = .ok (.iconst 1, 1) := by decide +kernel
theorem dX1_readJuror_24 : decode cX1_readJuror 24 = .ok (.invokevirtual 37, 3) := by decide +kernel
theorem dX1_readJuror_27 : decode cX1_readJuror 27 = .ok (.ifCond .ne 7, 3) := by decide +kernel
theorem dX1_readJuror_30 : decode cX1_readJuror 30 = .ok (.iload_n 2, 1) := by decide +kernel
theorem dX1_readJuror_31 : decode cX1_readJuror 31 = .ok (.iconst 1, 1) := by decide +kernel
theorem dX1_readJuror_32 : decode cX1_readJuror 32 = .ok (.iadd, 1) := by decide +kernel
theorem dX1_readJuror_33 : decode cX1_readJuror 33 = .ok (.ireturn, 1) := by decide +kernel
theorem dX1_readJuror_34 : decode cX1_readJuror 34 = .ok (.aload_n 1, 1) := by decide +kernel
theorem dX1_readJuror_35 : decode cX1_readJuror 35 = .ok (.iload_n 2, 1) := by decide +kernel
theorem dX1_readJuror_36 : decode cX1_readJuror 36 = .ok (.iconst 2, 1) := by decide +kernel
theorem dX1_readJuror_37 : decode cX1_readJuror 37 = .ok (.iadd, 1) := by decide +kernel
theorem dX1_readJuror_38 : decode cX1_readJuror 38 = .ok (.iconst 1, 1) := by decide +kernel
theorem dX1_readJuror_39 : decode cX1_readJuror 39 = .ok (.bipush 9, 2) := by decide +kernel
theorem dX1_readJuror_41 : decode cX1_readJuror 41 = .ok (.invokevirtual 37, 3) := by decide +kernel
theorem dX1_readJuror_44 : decode cX1_readJuror 44 = .ok (.ifCond .ne 7, 3) := by decide +kernel
theorem dX1_readJuror_47 : decode cX1_readJuror 47 = .ok (.iload_n 2, 1) := by decide +kernel
theorem dX1_readJuror_48 : decode cX1_readJuror 48 = .ok (.iconst 2, 1) := by decide +kernel
theorem dX1_readJuror_49 : decode cX1_readJuror 49 = .ok (.iadd, 1) := by decide +kernel
theorem dX1_readJuror_50 : decode cX1_readJuror 50 = .ok (.ireturn, 1) := by decide +kernel
theorem dX1_readJuror_51 : decode cX1_readJuror 51 = .ok (.aload_n 1, 1) := by decide +kernel
theorem dX1_readJuror_52 : decode cX1_readJuror 52 = .ok (.iload_n 2, 1) := by decide +kernel
theorem dX1_readJuror_53 : decode cX1_readJuror 53 = .ok (.iconst 3, 1) := by decide +kernel
theorem dX1_readJuror_54 : decode cX1_readJuror 54 = .ok (.iadd, 1) := by decide +kernel
theorem dX1_readJuror_55 : decode cX1_readJuror 55 = .ok (.iconst 0, 1) := by decide +kernel
theorem dX1_readJuror_56 : decode cX1_readJuror 56 = .ok (.iconst 3, 1) := by decide +kernel
theorem dX1_readJuror_57 : decode cX1_readJuror 57 = .ok (.invokevirtual 37, 3) := by decide +kernel
theorem dX1_readJuror_60 : decode cX1_readJuror 60 = .ok (.ifCond .ne 7, 3) := by decide +kernel
theorem dX1_readJuror_63 : decode cX1_readJuror 63 = .ok (.iload_n 2, 1) := by decide +kernel
theorem dX1_readJuror_64 : decode cX1_readJuror 64 = .ok (.iconst 3, 1) := by decide +kernel
theorem dX1_readJuror_65 : decode cX1_readJuror 65 = .ok (.iadd, 1) := by decide +kernel
theorem dX1_readJuror_66 : decode cX1_readJuror 66 = .ok (.ireturn, 1) := by decide +kernel
theorem dX1_readJuror_67 : decode cX1_readJuror 67 = .ok (.aload_n 0, 1) := by decide +kernel
theorem dX1_readJuror_68 : decode cX1_readJuror 68 = .ok (.dup, 1) := by decide +kernel
theorem dX1_readJuror_69 : decode cX1_readJuror 69 = .ok (.getfield 28, 3) := by decide +kernel
theorem dX1_readJuror_72 : decode cX1_readJuror 72 = .ok (.aload_n 1, 1) := by decide +kernel
theorem dX1_readJuror_73 : decode cX1_readJuror 73 = .ok (.iload_n 2, 1) := by decide +kernel
theorem dX1_readJuror_74 : decode cX1_readJuror 74 = .ok (.iconst 1, 1) := by decide +kernel
theorem dX1_readJuror_75 : decode cX1_readJuror 75 = .ok (.iadd, 1) := by decide +kernel
theorem dX1_readJuror_76 : decode cX1_readJuror 76 = .ok (.invokevirtual 41, 3) := by decide +kernel
theorem dX1_readJuror_79 : decode cX1_readJuror 79 = .ok (.aload_n 0, 1) := by decide +kernel
theorem dX1_readJuror_80 : decode cX1_readJuror 80 = .ok (.getfield 25, 3) := by decide +kernel
theorem dX1_readJuror_83 : decode cX1_readJuror 83 = .ok (.ishl, 1) := by decide +kernel
theorem dX1_readJuror_84 : decode cX1_readJuror 84 = .ok (.ior, 1) := by decide +kernel
theorem dX1_readJuror_85 : decode cX1_readJuror 85 = .ok (.putfield 28, 3) := by decide +kernel
theorem dX1_readJuror_88 : decode cX1_readJuror 88 = .ok (.aload_n 0, 1) := by decide +kernel
theorem dX1_readJuror_89 : decode cX1_readJuror 89 = .ok (.getfield 9, 3) := by decide +kernel
theorem dX1_readJuror_92 : decode cX1_readJuror 92 = .ok (.aload_n 0, 1) := by decide +kernel
theorem dX1_readJuror_93 : decode cX1_readJuror 93 = .ok (.getfield 25, 3) := by decide +kernel
theorem dX1_readJuror_96 : decode cX1_readJuror 96 = .ok (.aload_n 1, 1) := by decide +kernel
theorem dX1_readJuror_97 : decode cX1_readJuror 97 = .ok (.iload_n 2, 1) := by decide +kernel
theorem dX1_readJuror_98 : decode cX1_readJuror 98 = .ok (.iconst 2, 1) := by decide +kernel
theorem dX1_readJuror_99 : decode cX1_readJuror 99 = .ok (.iadd, 1) := by decide +kernel
theorem dX1_readJuror_100 : decode cX1_readJuror 100 = .ok (.invokevirtual 41, 3) := by decide +kernel
theorem dX1_readJuror_103 : decode cX1_readJuror 103 = .ok (.iastore, 1) := by decide +kernel
theorem dX1_readJuror_104 : decode cX1_readJuror 104 = .ok (.aload_n 0, 1) := by decide +kernel
theorem dX1_readJuror_105 : decode cX1_readJuror 105 = .ok (.getfield 15, 3) := by decide +kernel
theorem dX1_readJuror_108 : decode cX1_readJuror 108 = .ok (.aload_n 0, 1) := by decide +kernel
theorem dX1_readJuror_109 : decode cX1_readJuror 109 = .ok (.getfield 25, 3) := by decide +kernel
theorem dX1_readJuror_112 : decode cX1_readJuror 112 = .ok (.aload_n 1, 1) := by decide +kernel
theorem dX1_readJuror_113 : decode cX1_readJuror 113 = .ok (.iload_n 2, 1) := by decide +kernel
theorem dX1_readJuror_114 : decode cX1_readJuror 114 = .ok (.iconst 3, 1) := by decide +kernel
theorem dX1_readJuror_115 : decode cX1_readJuror 115 = .ok (.iadd, 1) := by decide +kernel
theorem dX1_readJuror_116 : decode cX1_readJuror 116 = .ok (.invokevirtual 41, 3) := by decide +kernel
theorem dX1_readJuror_119 : decode cX1_readJuror 119 = .ok (.iastore, 1) := by decide +kernel
theorem dX1_readJuror_120 : decode cX1_readJuror 120 = .ok (.aload_n 0, 1) := by decide +kernel
theorem dX1_readJuror_121 : decode cX1_readJuror 121 = .ok (.getfield 18, 3) := by decide +kernel
theorem dX1_readJuror_124 : decode cX1_readJuror 124 = .ok (.aload_n 0, 1) := by decide +kernel
theorem dX1_readJuror_125 : decode cX1_readJuror 125 = .ok (.getfield 25, 3) := by decide +kernel
theorem dX1_readJuror_128 : decode cX1_readJuror 128 = .ok (.iconst 0, 1) := by decide +kernel
theorem dX1_readJuror_129 : decode cX1_readJuror 129 = .ok (.iastore, 1) := by decide +kernel
theorem dX1_readJuror_130 : decode cX1_readJuror 130 = .ok (.aload_n 0, 1) := by decide +kernel
theorem dX1_readJuror_131 : decode cX1_readJuror 131 = .ok (.dup, 1) := by decide +kernel
theorem dX1_readJuror_132 : decode cX1_readJuror 132 = .ok (.getfield 25, 3) := by decide +kernel
theorem dX1_readJuror_135 : decode cX1_readJuror 135 = .ok (.iconst 1, 1) := by decide +kernel
theorem dX1_readJuror_136 : decode cX1_readJuror 136 = .ok (.iadd, 1) := by decide +kernel
theorem dX1_readJuror_137 : decode cX1_readJuror 137 = .ok (.putfield 25, 3) := by decide +kernel
theorem dX1_readJuror_140 : decode cX1_readJuror 140 = .ok (.bipush (-9), 2) := by decide +kernel
theorem dX1_readJuror_142 : decode cX1_readJuror 142 = .ok (.ireturn, 1) := by decide +kernel
set_option maxRecDepth 20000 in
theorem ggX1_readPair_X4_letterAt : GoodIn wsX1_readPair wsX4_letterAt := goodIn_r _ [6, 7, 8, 30, 31] (by decide +kernel) (by decide +kernel)
set_option maxRecDepth 20000 in
theorem gX1_readPair_X4_letterAt : GoodIn wsX1_readPair (wsV RX1 31 RX4 yX4_letterAt wsX4_letterAt) := goodIn_app (goodIn_of _ (by decide +kernel)) ggX1_readPair_X4_letterAt
set_option maxRecDepth 20000 in
theorem ggX1_readPair_X1_hasPairLeft : GoodIn wsX1_readPair wsX1_hasPairLeft := goodIn_r _ [13, 14, 15, 16, 17, 12, 18, 1, 24, 25, 26, 27, 28, 29] (by decide +kernel) (by decide +kernel)
set_option maxRecDepth 20000 in
theorem gX1_readPair_X1_hasPairLeft : GoodIn wsX1_readPair (wsV RX1 54 RX1 yX1_hasPairLeft wsX1_hasPairLeft) := goodIn_app (goodIn_of _ (by decide +kernel)) ggX1_readPair_X1_hasPairLeft
set_option maxRecDepth 20000 in
theorem ggX1_readPair_X4_figureAt : GoodIn wsX1_readPair wsX4_figureAt := goodIn_r _ [22, 23, 3, 4, 5, 6, 7, 8, 30, 31] (by decide +kernel) (by decide +kernel)
set_option maxRecDepth 20000 in
theorem gX1_readPair_X4_figureAt : GoodIn wsX1_readPair (wsV RX1 41 RX4 yX4_figureAt wsX4_figureAt) := goodIn_app (goodIn_of _ (by decide +kernel)) ggX1_readPair_X4_figureAt
set_option maxRecDepth 20000 in
theorem ggX1_readPair_X1_pairsLeft : GoodIn wsX1_readPair wsX1_pairsLeft := goodIn_r _ [18, 14, 1, 24, 25, 26, 27, 28, 29] (by decide +kernel) (by decide +kernel)
set_option maxRecDepth 20000 in
theorem gX1_readPair_X1_pairsLeft : GoodIn wsX1_readPair (wsV RX1 58 RX1 yX1_pairsLeft wsX1_pairsLeft) := goodIn_app (goodIn_of _ (by decide +kernel)) ggX1_readPair_X1_pairsLeft
theorem dX1_readPair_0 : decode cX1_readPair 0 = .ok (.aload_n 1, 1) := by decide +kernel
theorem dX1_readPair_1 : decode cX1_readPair 1 = .ok (.iload_n 2, 1) := by decide +kernel
theorem dX1_readPair_2 : decode cX1_readPair 2 = .ok (.invokevirtual 31, 3) := by decide +kernel
theorem dX1_readPair_5 : decode cX1_readPair 5 = .ok (.bipush 72, 2) := by decide +kernel
theorem dX1_readPair_7 : decode cX1_readPair 7 = .ok (.if_icmp .ne 10, 3) := by decide +kernel
theorem dX1_readPair_10 : decode cX1_readPair 10 = .ok (.aload_n 0, 1) := by decide +kernel
theorem dX1_readPair_11 : decode cX1_readPair 11 = .ok (.invokevirtual 54, 3) := by decide +kernel
theorem dX1_readPair_14 : decode cX1_readPair 14 = .ok (.ifCond .ne 5, 3) := by decide +kernel
theorem dX1_readPair_17 : decode cX1_readPair 17 = .ok (.iload_n 2, 1) := by decide +kernel
theorem dX1_readPair_18 : decode cX1_readPair 18 = .ok (.ireturn, 1) := by decide +kernel
theorem dX1_readPair_19 : decode cX1_readPair 19 = .ok (.aload_n 1, 1) := by decide +kernel
theorem dX1_readPair_20 : decode cX1_readPair 20 = .ok (.iload_n 2, 1) := by decide +kernel
theorem dX1_readPair_21 : decode cX1_readPair 21 = .ok (.iconst 1, 1) := by decide +kernel
theorem dX1_readPair_22 : decode cX1_readPair 22 = .ok (.iadd, 1) := by decide +kernel
theorem dX1_readPair_23 : decode cX1_readPair 23 = .ok (.invokevirtual 41, 3) := by decide +kernel
theorem dX1_readPair_26 : decode cX1_readPair 26 = .ok (.istore_n 3, 1) := by decide +kernel
theorem dX1_readPair_27 : decode cX1_readPair 27 = .ok (.aload_n 0, 1) := by decide +kernel
theorem dX1_readPair_28 : decode cX1_readPair 28 = .ok (.iload_n 3, 1) := by decide +kernel
theorem dX1_readPair_29 : decode cX1_readPair 29 = .ok (.invokevirtual 58, 3) := by decide +kernel
theorem dX1_readPair_32 : decode cX1_readPair 32 = .ok (.ifCond .ne 7, 3) := by decide +kernel
theorem dX1_readPair_35 : decode cX1_readPair 35 = .ok (.iload_n 2, 1) := by decide +kernel
theorem dX1_readPair_36 : decode cX1_readPair 36 = .ok (.iconst 1, 1) := by decide +kernel
theorem dX1_readPair_37 : decode cX1_readPair 37 = .ok (.iadd, 1) := by decide +kernel
theorem dX1_readPair_38 : decode cX1_readPair 38 = .ok (.ireturn, 1) := by decide +kernel
theorem dX1_readPair_39 : decode cX1_readPair 39 = .ok (.aload_n 1, 1) := by decide +kernel
theorem dX1_readPair_40 : decode cX1_readPair 40 = .ok (.iload_n 2, 1) := by decide +kernel
theorem dX1_readPair_41 : decode cX1_readPair 41 = .ok (.iconst 2, 1) := by decide +kernel
theorem dX1_readPair_42 : decode cX1_readPair 42 = .ok (.iadd, 1) := by decide +kernel
theorem dX1_readPair_43 : decode cX1_readPair 43 = .ok (.invokevirtual 41, 3) := by decide +kernel
theorem dX1_readPair_46 : decode cX1_readPair 46 = .ok (.istore 4, 2) := by decide +kernel
theorem dX1_readPair_48 : decode cX1_readPair 48 = .ok (.iload 4, 2) := by decide +kernel
theorem dX1_readPair_50 : decode cX1_readPair 50 = .ok (.ifCond .lt 23, 3) := by decide +kernel
theorem dX1_readPair_53 : decode cX1_readPair 53 = .ok (.iload 4, 2) := by decide +kernel
theorem dX1_readPair_55 : decode cX1_readPair 55 = .ok (.bipush 6, 2) := by decide +kernel
theorem dX1_readPair_57 : decode cX1_readPair 57 = .ok (.if_icmp .ge 16, 3) := by decide +kernel
theorem dX1_readPair_60 : decode cX1_readPair 60 = .ok (.aload_n 0, 1) := by decide +kernel
theorem dX1_readPair_61 : decode cX1_readPair 61 = .ok (.iload_n 3, 1) := by decide +kernel
theorem dX1_readPair_62 : decode cX1_readPair 62 = .ok (.invokevirtual 58, 3) := by decide +kernel
theorem dX1_readPair_65 : decode cX1_readPair 65 = .ok (.iload 4, 2) := by decide +kernel
theorem dX1_readPair_67 : decode cX1_readPair 67 = .ok (.ishr, 1) := by decide +kernel
theorem dX1_readPair_68 : decode cX1_readPair 68 = .ok (.iconst 1, 1) := by decide +kernel
theorem dX1_readPair_69 : decode cX1_readPair 69 = .ok (.iand, 1) := by decide +kernel
theorem dX1_readPair_70 : decode cX1_readPair 70 = .ok (.ifCond .ne 7, 3) := by decide +kernel
theorem dX1_readPair_73 : decode cX1_readPair 73 = .ok (.iload_n 2, 1) := by decide +kernel
theorem dX1_readPair_74 : decode cX1_readPair 74 = .ok (.iconst 2, 1) := by decide +kernel
theorem dX1_readPair_75 : decode cX1_readPair 75 = .ok (.iadd, 1) := by decide +kernel
theorem dX1_readPair_76 : decode cX1_readPair 76 = .ok (.ireturn, 1) := by decide +kernel
theorem dX1_readPair_77 : decode cX1_readPair 77 = .ok (.iload_n 3, 1) := by decide +kernel
theorem dX1_readPair_78 : decode cX1_readPair 78 = .ok (.ifCond .lt 22, 3) := by decide +kernel
theorem dX1_readPair_81 : decode cX1_readPair 81 = .ok (.iload_n 3, 1) := by decide +kernel
theorem dX1_readPair_82 : decode cX1_readPair 82 = .ok (.bipush 6, 2) := by decide +kernel
theorem dX1_readPair_84 : decode cX1_readPair 84 = .ok (.if_icmp .ge 16, 3) := by decide +kernel
theorem dX1_readPair_87 : decode cX1_readPair 87 = .ok (.aload_n 0, 1) := by decide +kernel
theorem dX1_readPair_88 : decode cX1_readPair 88 = .ok (.getfield 18, 3) := by decide +kernel
theorem dX1_readPair_91 : decode cX1_readPair 91 = .ok (.iload_n 3, 1) := by decide +kernel
theorem dX1_readPair_92 : decode cX1_readPair 92 = .ok (.dup2, 1) := by decide +kernel
theorem dX1_readPair_93 : decode cX1_readPair 93 = .ok (.iaload, 1) := by decide +kernel
theorem dX1_readPair_94 : decode cX1_readPair 94 = .ok (.iconst 1, 1) := by decide +kernel
theorem dX1_readPair_95 : decode cX1_readPair 95 = .ok (.iload 4, 2) := by decide +kernel
theorem dX1_readPair_97 : decode cX1_readPair 97 = .ok (.ishl, 1) := by decide +kernel
theorem dX1_readPair_98 : decode cX1_readPair 98 = .ok (.ior, 1) := by decide +kernel
theorem dX1_readPair_99 : decode cX1_readPair 99 = .ok (.iastore, 1) := by decide +kernel
theorem dX1_readPair_100 : decode cX1_readPair 100 = .ok (.bipush (-9), 2) := by decide +kernel
theorem dX1_readPair_102 : decode cX1_readPair 102 = .ok (.ireturn, 1) := by decide +kernel
set_option maxRecDepth 20000 in
theorem ggX1_hasPairLeft_X1_pairsLeft : GoodIn wsX1_hasPairLeft wsX1_pairsLeft := goodIn_r _ [6, 1, 7, 8, 9, 10, 11, 12, 13] (by decide +kernel) (by decide +kernel)
set_option maxRecDepth 20000 in
theorem gX1_hasPairLeft_X1_pairsLeft : GoodIn wsX1_hasPairLeft (wsV RX1 58 RX1 yX1_pairsLeft wsX1_pairsLeft) := goodIn_app (goodIn_of _ (by decide +kernel)) ggX1_hasPairLeft_X1_pairsLeft
theorem dX1_hasPairLeft_0 : decode cX1_hasPairLeft 0 = .ok (.iconst 0, 1) := by decide +kernel
theorem dX1_hasPairLeft_1 : decode cX1_hasPairLeft 1 = .ok (.istore_n 1, 1) := by decide +kernel
theorem dX1_hasPairLeft_2 : decode cX1_hasPairLeft 2 = .ok (.iload_n 1, 1) := by decide +kernel
theorem dX1_hasPairLeft_3 : decode cX1_hasPairLeft 3 = .ok (.aload_n 0, 1) := by decide +kernel
theorem dX1_hasPairLeft_4 : decode cX1_hasPairLeft 4 = .ok (.getfield 25, 3) := by decide +kernel
theorem dX1_hasPairLeft_7 : decode cX1_hasPairLeft 7 = .ok (.if_icmp .ge 19, 3) := by decide +kernel
theorem dX1_hasPairLeft_10 : decode cX1_hasPairLeft 10 = .ok (.aload_n 0, 1) := by decide +kernel
theorem dX1_hasPairLeft_11 : decode cX1_hasPairLeft 11 = .ok (.iload_n 1, 1) := by decide +kernel
theorem dX1_hasPairLeft_12 : decode cX1_hasPairLeft 12 = .ok (.invokevirtual 58, 3) := by decide +kernel
theorem dX1_hasPairLeft_15 : decode cX1_hasPairLeft 15 = .ok (.ifCond .eq 5, 3) := by decide +kernel
theorem dX1_hasPairLeft_18 : decode cX1_hasPairLeft 18 = .ok (.iconst 1, 1) := by decide +kernel
theorem dX1_hasPairLeft_19 : decode cX1_hasPairLeft 19 = .ok (.ireturn, 1) := by decide +kernel
theorem dX1_hasPairLeft_20 : decode cX1_hasPairLeft 20 = .ok (.iinc 1 1, 3) := by decide +kernel
theorem dX1_hasPairLeft_23 : decode cX1_hasPairLeft 23 = .ok (.goto (-21), 3) := by decide +kernel
theorem dX1_hasPairLeft_26 : decode cX1_hasPairLeft 26 = .ok (.iconst 0, 1) := by decide +kernel
theorem dX1_hasPairLeft_27 : decode cX1_hasPairLeft 27 = .ok (.ireturn, 1) := by decide +kernel
theorem dX1_pairsLeft_0 : decode cX1_pairsLeft 0 = .ok (.iload_n 1, 1) := by decide +kernel
theorem dX1_pairsLeft_1 : decode cX1_pairsLeft 1 = .ok (.ifCond .lt 17, 3) := by decide +kernel
theorem dX1_pairsLeft_4 : decode cX1_pairsLeft 4 = .ok (.iload_n 1, 1) := by decide +kernel
theorem dX1_pairsLeft_5 : decode cX1_pairsLeft 5 = .ok (.aload_n 0, 1) := by decide +kernel
theorem dX1_pairsLeft_6 : decode cX1_pairsLeft 6 = .ok (.getfield 25, 3) := by decide +kernel
theorem dX1_pairsLeft_9 : decode cX1_pairsLeft 9 = .ok (.if_icmp .ge 9, 3) := by decide +kernel
theorem dX1_pairsLeft_12 : decode cX1_pairsLeft 12 = .ok (.iload_n 1, 1) := by decide +kernel
theorem dX1_pairsLeft_13 : decode cX1_pairsLeft 13 = .ok (.bipush 6, 2) := by decide +kernel
theorem dX1_pairsLeft_15 : decode cX1_pairsLeft 15 = .ok (.if_icmp .lt 5, 3) := by decide +kernel
theorem dX1_pairsLeft_18 : decode cX1_pairsLeft 18 = .ok (.iconst 0, 1) := by decide +kernel
theorem dX1_pairsLeft_19 : decode cX1_pairsLeft 19 = .ok (.ireturn, 1) := by decide +kernel
theorem dX1_pairsLeft_20 : decode cX1_pairsLeft 20 = .ok (.iconst 1, 1) := by decide +kernel
theorem dX1_pairsLeft_21 : decode cX1_pairsLeft 21 = .ok (.aload_n 0, 1) := by decide +kernel
theorem dX1_pairsLeft_22 : decode cX1_pairsLeft 22 = .ok (.getfield 25, 3) := by decide +kernel
theorem dX1_pairsLeft_25 : decode cX1_pairsLeft 25 = .ok (.ishl, 1) := by decide +kernel
theorem dX1_pairsLeft_26 : decode cX1_pairsLeft 26 = .ok (.iconst 1, 1) := by decide +kernel
theorem dX1_pairsLeft_27 : decode cX1_pairsLeft 27 = .ok (.isub, 1) := by decide +kernel
theorem dX1_pairsLeft_28 : decode cX1_pairsLeft 28 = .ok (.iconst 1, 1) := by decide +kernel
theorem dX1_pairsLeft_29 : decode cX1_pairsLeft 29 = .ok (.iload_n 1, 1) := by decide +kernel
theorem dX1_pairsLeft_30 : decode cX1_pairsLeft 30 = .ok (.ishl, 1) := by decide +kernel
theorem dX1_pairsLeft_31 : decode cX1_pairsLeft 31 = .ok (.iconst (-1), 1) := by decide +kernel
theorem dX1_pairsLeft_32 : decode cX1_pairsLeft 32 = .ok (.ixor, 1) := by decide +kernel
theorem dX1_pairsLeft_33 : decode cX1_pairsLeft 33 = .ok (.iand, 1) := by decide +kernel
theorem dX1_pairsLeft_34 : decode cX1_pairsLeft 34 = .ok (.aload_n 0, 1) := by decide +kernel
theorem dX1_pairsLeft_35 : decode cX1_pairsLeft 35 = .ok (.getfield 18, 3) := by decide +kernel
theorem dX1_pairsLeft_38 : decode cX1_pairsLeft 38 = .ok (.iload_n 1, 1) := by decide +kernel
theorem dX1_pairsLeft_39 : decode cX1_pairsLeft 39 = .ok (.iaload, 1) := by decide +kernel
theorem dX1_pairsLeft_40 : decode cX1_pairsLeft 40 = .ok (.iconst (-1), 1) := by decide +kernel
theorem dX1_pairsLeft_41 : decode cX1_pairsLeft 41 = .ok (.ixor, 1) := by decide +kernel
theorem dX1_pairsLeft_42 : decode cX1_pairsLeft 42 = .ok (.iand, 1) := by decide +kernel
theorem dX1_pairsLeft_43 : decode cX1_pairsLeft 43 = .ok (.ireturn, 1) := by decide +kernel
theorem dX2_init_0 : decode cX2_init 0 = .ok (.aload_n 0, 1) := by decide +kernel
theorem dX2_init_1 : decode cX2_init 1 = .ok (.invokespecial 3, 3) := by decide +kernel
theorem dX2_init_4 : decode cX2_init 4 = .ok (.aload_n 0, 1) := by decide +kernel
theorem dX2_init_5 : decode cX2_init 5 = .ok (.bipush 6, 2) := by decide +kernel
theorem dX2_init_7 : decode cX2_init 7 = .ok (.newarray .int, 2) := by decide +kernel
theorem dX2_init_9 : decode cX2_init 9 = .ok (.putfield 9, 3) := by decide +kernel
theorem dX2_init_12 : decode cX2_init 12 = .ok (.aload_n 0, 1) := by decide +kernel
theorem dX2_init_13 : decode cX2_init 13 = .ok (.bipush 6, 2) := by decide +kernel
theorem dX2_init_15 : decode cX2_init 15 = .ok (.newarray .int, 2) := by decide +kernel
theorem dX2_init_17 : decode cX2_init 17 = .ok (.putfield 15, 3) := by decide +kernel
theorem dX2_init_20 : decode cX2_init 20 = .ok (.aload_n 0, 1) := by decide +kernel
theorem dX2_init_21 : decode cX2_init 21 = .ok (.aload_n 1, 1) := by decide +kernel
theorem dX2_init_22 : decode cX2_init 22 = .ok (.putfield 18, 3) := by decide +kernel
theorem dX2_init_25 : decode cX2_init 25 = .ok (.return_, 1) := by decide +kernel
theorem dX2_beginAnew_0 : decode cX2_beginAnew 0 = .ok (.aload_n 0, 1) := by decide +kernel
theorem dX2_beginAnew_1 : decode cX2_beginAnew 1 = .ok (.aload_n 0, 1) := by decide +kernel
theorem dX2_beginAnew_2 : decode cX2_beginAnew 2 = .ok (.getfield 18, 3) := by decide +kernel
theorem dX2_beginAnew_5 : decode cX2_beginAnew 5 = .ok (.getfield 22, 3) := by decide +kernel
theorem dX2_beginAnew_8 : decode cX2_beginAnew 8 = .ok (.putfield 28, 3) := by decide +kernel
theorem dX2_beginAnew_11 : decode cX2_beginAnew 11 = .ok (.aload_n 0, 1) := by decide +kernel
theorem dX2_beginAnew_12 : decode cX2_beginAnew 12 = .ok (.iconst 1, 1) := by decide +kernel
theorem dX2_beginAnew_13 : decode cX2_beginAnew 13 = .ok (.aload_n 0, 1) := by decide +kernel
theorem dX2_beginAnew_14 : decode cX2_beginAnew 14 = .ok (.getfield 18, 3) := by decide +kernel
theorem dX2_beginAnew_17 : decode cX2_beginAnew 17 = .ok (.getfield 29, 3) := by decide +kernel
theorem dX2_beginAnew_20 : decode cX2_beginAnew 20 = .ok (.ishl, 1) := by decide +kernel
theorem dX2_beginAnew_21 : decode cX2_beginAnew 21 = .ok (.iconst 1, 1) := by decide +kernel
theorem dX2_beginAnew_22 : decode cX2_beginAnew 22 = .ok (.isub, 1) := by decide +kernel
theorem dX2_beginAnew_23 : decode cX2_beginAnew 23 = .ok (.putfield 32, 3) := by decide +kernel
theorem dX2_beginAnew_26 : decode cX2_beginAnew 26 = .ok (.aload_n 0, 1) := by decide +kernel
theorem dX2_beginAnew_27 : decode cX2_beginAnew 27 = .ok (.iconst 0, 1) := by decide +kernel
theorem dX2_beginAnew_28 : decode cX2_beginAnew 28 = .ok (.putfield 35, 3) := by decide +kernel
theorem dX2_beginAnew_31 : decode cX2_beginAnew 31 = .ok (.iconst 0, 1) := by decide +kernel
theorem dX2_beginAnew_32 : decode cX2_beginAnew 32 = .ok (.istore_n 1, 1) := by decide +kernel
theorem dX2_beginAnew_33 : decode cX2_beginAnew 33 = .ok (.iload_n 1, 1) := by decide +kernel
theorem dX2_beginAnew_34 : decode cX2_beginAnew 34 = .ok (.bipush 6, 2) := by decide +kernel
theorem dX2_beginAnew_36 : decode cX2_beginAnew 36 = .ok (.if_icmp .ge 31, 3) := by decide +kernel
theorem dX2_beginAnew_39 : decode cX2_beginAnew 39 = .ok (.aload_n 0, 1) := by decide +kernel
theorem dX2_beginAnew_40 : decode cX2_beginAnew 40 = .ok (.getfield 9, 3) := by decide +kernel
theorem dX2_beginAnew_43 : decode cX2_beginAnew 43 = .ok (.iload_n 1, 1) := by decide +kernel
theorem dX2_beginAnew_44 : decode cX2_beginAnew 44 = .ok (.aload_n 0, 1) := by decide +kernel
theorem dX2_beginAnew_45 : decode cX2_beginAnew 45 = .ok (.getfield 18, 3) := by decide +kernel
theorem dX2_beginAnew_48 : decode cX2_beginAnew 48 = .ok (.getfield 38, 3) := by decide +kernel
theorem dX2_beginAnew_51 : decode cX2_beginAnew 51 = .ok (.iload_n 1, 1) := by decide +kernel
theorem dX2_beginAnew_52 : decode cX2_beginAnew 52 = .ok (.iaload, 1) := by decide +kernel
theorem dX2_beginAnew_53 : decode cX2_beginAnew 53 = .ok (.iastore, 1) := by decide +kernel
theorem dX2_beginAnew_54 : decode cX2_beginAnew 54 = .ok (.aload_n 0, 1) := by decide +kernel
theorem dX2_beginAnew_55 : decode cX2_beginAnew 55 = .ok (.getfield 15, 3) := by decide +kernel
theorem dX2_beginAnew_58 : decode cX2_beginAnew 58 = .ok (.iload_n 1, 1) := by decide +kernel
theorem dX2_beginAnew_59 : decode cX2_beginAnew 59 = .ok (.iconst 0, 1) := by decide +kernel
theorem dX2_beginAnew_60 : decode cX2_beginAnew 60 = .ok (.iastore, 1) := by decide +kernel
theorem dX2_beginAnew_61 : decode cX2_beginAnew 61 = .ok (.iinc 1 1, 3) := by decide +kernel
theorem dX2_beginAnew_64 : decode cX2_beginAnew 64 = .ok (.goto (-31), 3) := by decide +kernel
theorem dX2_beginAnew_67 : decode cX2_beginAnew 67 = .ok (.return_, 1) := by decide +kernel
theorem dX2_copyFrom_0 : decode cX2_copyFrom 0 = .ok (.aload_n 0, 1) := by decide +kernel
theorem dX2_copyFrom_1 : decode cX2_copyFrom 1 = .ok (.aload_n 1, 1) := by decide +kernel
theorem dX2_copyFrom_2 : decode cX2_copyFrom 2 = .ok (.getfield 28, 3) := by decide +kernel
theorem dX2_copyFrom_5 : decode cX2_copyFrom 5 = .ok (.putfield 28, 3) := by decide +kernel
theorem dX2_copyFrom_8 : decode cX2_copyFrom 8 = .ok (.aload_n 0, 1) := by decide +kernel
theorem dX2_copyFrom_9 : decode cX2_copyFrom 9 = .ok (.aload_n 1, 1) := by decide +kernel
theorem dX2_copyFrom_10 : decode cX2_copyFrom 10 = .ok (.getfield 32, 3) := by decide +kernel
theorem dX2_copyFrom_13 : decode cX2_copyFrom 13 = .ok (.putfield 32, 3) := by decide +kernel
theorem dX2_copyFrom_16 : decode cX2_copyFrom 16 = .ok (.aload_n 0, 1) := by decide +kernel
theorem dX2_copyFrom_17 : decode cX2_copyFrom 17 = .ok (.aload_n 1, 1) := by decide +kernel
theorem dX2_copyFrom_18 : decode cX2_copyFrom 18 = .ok (.getfield 35, 3) := by decide +kernel
theorem dX2_copyFrom_21 : decode cX2_copyFrom 21 = .ok (.putfield 35, 3) := by decide +kernel
theorem dX2_copyFrom_24 : decode cX2_copyFrom 24 = .ok (.iconst 0, 1) := by decide +kernel
theorem dX2_copyFrom_25 : decode cX2_copyFrom 25 = .ok (.istore_n 2, 1) := by decide +kernel
theorem dX2_copyFrom_26 : decode cX2_copyFrom 26 = .ok (.iload_n 2, 1) := by decide +kernel
theorem dX2_copyFrom_27 : decode cX2_copyFrom 27 = .ok (.bipush 6, 2) := by decide +kernel
theorem dX2_copyFrom_29 : decode cX2_copyFrom 29 = .ok (.if_icmp .ge 33, 3) := by decide +kernel
theorem dX2_copyFrom_32 : decode cX2_copyFrom 32 = .ok (.aload_n 0, 1) := by decide +kernel
theorem dX2_copyFrom_33 : decode cX2_copyFrom 33 = .ok (.getfield 9, 3) := by decide +kernel
theorem dX2_copyFrom_36 : decode cX2_copyFrom 36 = .ok (.iload_n 2, 1) := by decide +kernel
theorem dX2_copyFrom_37 : decode cX2_copyFrom 37 = .ok (.aload_n 1, 1) := by decide +kernel
theorem dX2_copyFrom_38 : decode cX2_copyFrom 38 = .ok (.getfield 9, 3) := by decide +kernel
theorem dX2_copyFrom_41 : decode cX2_copyFrom 41 = .ok (.iload_n 2, 1) := by decide +kernel
theorem dX2_copyFrom_42 : decode cX2_copyFrom 42 = .ok (.iaload, 1) := by decide +kernel
theorem dX2_copyFrom_43 : decode cX2_copyFrom 43 = .ok (.iastore, 1) := by decide +kernel
theorem dX2_copyFrom_44 : decode cX2_copyFrom 44 = .ok (.aload_n 0, 1) := by decide +kernel
theorem dX2_copyFrom_45 : decode cX2_copyFrom 45 = .ok (.getfield 15, 3) := by decide +kernel
theorem dX2_copyFrom_48 : decode cX2_copyFrom 48 = .ok (.iload_n 2, 1) := by decide +kernel
theorem dX2_copyFrom_49 : decode cX2_copyFrom 49 = .ok (.aload_n 1, 1) := by decide +kernel
theorem dX2_copyFrom_50 : decode cX2_copyFrom 50 = .ok (.getfield 15, 3) := by decide +kernel
theorem dX2_copyFrom_53 : decode cX2_copyFrom 53 = .ok (.iload_n 2, 1) := by decide +kernel
theorem dX2_copyFrom_54 : decode cX2_copyFrom 54 = .ok (.iaload, 1) := by decide +kernel
theorem dX2_copyFrom_55 : decode cX2_copyFrom 55 = .ok (.iastore, 1) := by decide +kernel
theorem dX2_copyFrom_56 : decode cX2_copyFrom 56 = .ok (.iinc 2 1, 3) := by decide +kernel
theorem dX2_copyFrom_59 : decode cX2_copyFrom 59 = .ok (.goto (-33), 3) := by decide +kernel
theorem dX2_copyFrom_62 : decode cX2_copyFrom 62 = .ok (.return_, 1) := by decide +kernel
theorem dX2_isThere_0 : decode cX2_isThere 0 = .ok (.iload_n 1, 1) := by decide +kernel
theorem dX2_isThere_1 : decode cX2_isThere 1 = .ok (.ifCond .lt 25, 3) := by decide +kernel
theorem dX2_isThere_4 : decode cX2_isThere 4 = .ok (.iload_n 1, 1) := by decide +kernel
theorem dX2_isThere_5 : decode cX2_isThere 5 = .ok (.bipush 6, 2) := by decide +kernel
theorem dX2_isThere_7 : decode cX2_isThere 7 = .ok (.if_icmp .ge 19, 3) := by decide +kernel
theorem dX2_isThere_10 : decode cX2_isThere 10 = .ok (.aload_n 0, 1) := by decide +kernel
theorem dX2_isThere_11 : decode cX2_isThere 11 = .ok (.getfield 32, 3) := by decide +kernel
theorem dX2_isThere_14 : decode cX2_isThere 14 = .ok (.iload_n 1, 1) := by decide +kernel
theorem dX2_isThere_15 : decode cX2_isThere 15 = .ok (.ishr, 1) := by decide +kernel
theorem dX2_isThere_16 : decode cX2_isThere 16 = .ok (.iconst 1, 1) := by decide +kernel
theorem dX2_isThere_17 : decode cX2_isThere 17 = .ok (.iand, 1) := by decide +kernel
theorem dX2_isThere_18 : decode cX2_isThere 18 = .ok (.iconst 1, 1) := by decide +kernel
theorem dX2_isThere_19 : decode cX2_isThere 19 = .ok (.if_icmp .ne 7, 3) := by decide +kernel
theorem dX2_isThere_22 : decode cX2_isThere 22 = .ok (.iconst 1, 1) := by decide +kernel
theorem dX2_isThere_23 : decode cX2_isThere 23 = .ok (.goto 4, 3) := by decide +kernel
theorem dX2_isThere_26 : decode cX2_isThere 26 = .ok (.iconst 0, 1) := by decide +kernel
theorem dX2_isThere_27 : decode cX2_isThere 27 = .ok (.ireturn, 1) := by decide +kernel
theorem dX2_isYes_0 : decode cX2_isYes 0 = .ok (.iload_n 1, 1) := by decide +kernel
theorem dX2_isYes_1 : decode cX2_isYes 1 = .ok (.ifCond .lt 25, 3) := by decide +kernel
theorem dX2_isYes_4 : decode cX2_isYes 4 = .ok (.iload_n 1, 1) := by decide +kernel
theorem dX2_isYes_5 : decode cX2_isYes 5 = .ok (.bipush 6, 2) := by decide +kernel
theorem dX2_isYes_7 : decode cX2_isYes 7 = .ok (.if_icmp .ge 19, 3) := by decide +kernel
theorem dX2_isYes_10 : decode cX2_isYes 10 = .ok (.aload_n 0, 1) := by decide +kernel
theorem dX2_isYes_11 : decode cX2_isYes 11 = .ok (.getfield 28, 3) := by decide +kernel
theorem dX2_isYes_14 : decode cX2_isYes 14 = .ok (.iload_n 1, 1) := by decide +kernel
theorem dX2_isYes_15 : decode cX2_isYes 15 = .ok (.ishr, 1) := by decide +kernel
theorem dX2_isYes_16 : decode cX2_isYes 16 = .ok (.iconst 1, 1) := by decide +kernel
theorem dX2_isYes_17 : decode cX2_isYes 17 = .ok (.iand, 1) := by decide +kernel
theorem dX2_isYes_18 : decode cX2_isYes 18 = .ok (.iconst 1, 1) := by decide +kernel
theorem dX2_isYes_19 : decode cX2_isYes 19 = .ok (.if_icmp .ne 7, 3) := by decide +kernel
theorem dX2_isYes_22 : decode cX2_isYes 22 = .ok (.iconst 1, 1) := by decide +kernel
theorem dX2_isYes_23 : decode cX2_isYes 23 = .ok (.goto 4, 3) := by decide +kernel
theorem dX2_isYes_26 : decode cX2_isYes 26 = .ok (.iconst 0, 1) := by decide +kernel
theorem dX2_isYes_27 : decode cX2_isYes 27 = .ok (.ireturn, 1) := by decide +kernel
theorem dX2_yesThere_0 : decode cX2_yesThere 0 = .ok (.aload_n 0, 1) := by decide +kernel
theorem dX2_yesThere_1 : decode cX2_yesThere 1 = .ok (.getfield 28, 3) := by decide +kernel
theorem dX2_yesThere_4 : decode cX2_yesThere 4 = .ok (.aload_n 0, 1) := by decide +kernel
theorem dX2_yesThere_5 : decode cX2_yesThere 5 = .ok (.getfield 32, 3) := by decide +kernel
theorem dX2_yesThere_8 : decode cX2_yesThere 8 = .ok (.iand, 1) := by decide +kernel
theorem dX2_yesThere_9 : decode cX2_yesThere 9 = .ok (.ireturn, 1) := by decide +kernel
set_option maxRecDepth 20000 in
theorem ggX2_verdict_J6_bitCount_0f7a4 : GoodIn wsX2_verdict wsJ6_bitCount_0f7a4 := goodIn_r _ [6, 7, 8, 9] (by decide +kernel) (by decide +kernel)
set_option maxRecDepth 20000 in
theorem gX2_verdict_J6_bitCount_0f7a4 : GoodIn wsX2_verdict (va_wsS RX2 39 yJ6_bitCount_0f7a4 wsJ6_bitCount_0f7a4) := goodIn_app (goodIn_of _ (by decide +kernel)) ggX2_verdict_J6_bitCount_0f7a4
set_option maxRecDepth 20000 in
theorem ggX2_verdict_X2_carries : GoodIn wsX2_verdict wsX2_carries := goodIn_r _ [14, 15, 16, 17, 18, 19, 20, 21, 22, 23, 24, 25, 26, 27, 28] (by decide +kernel) (by decide +kernel)
set_option maxRecDepth 20000 in
theorem gX2_verdict_X2_carries : GoodIn wsX2_verdict (wsV RX2 45 RX2 yX2_carries wsX2_carries) := goodIn_app (goodIn_of _ (by decide +kernel)) ggX2_verdict_X2_carries
theorem dX2_verdict_0 : decode cX2_verdict 0 = .ok (.aload_n 0, 1) := by decide +kernel
theorem dX2_verdict_1 : decode cX2_verdict 1 = .ok (.getfield 32, 3) := by decide +kernel
theorem dX2_verdict_4 : decode cX2_verdict 4 = .ok (.aload_n 0, 1) := by decide +kernel
theorem dX2_verdict_5 : decode cX2_verdict 5 = .ok (.getfield 28, 3) := by decide +kernel
theorem dX2_verdict_8 : decode cX2_verdict 8 = .ok (.iand, 1) := by decide +kernel
theorem dX2_verdict_9 : decode cX2_verdict 9 = .ok (.invokestatic 39, 3) := by decide +kernel
theorem dX2_verdict_12 : decode cX2_verdict 12 = .ok (.istore_n 1, 1) := by decide +kernel
theorem dX2_verdict_13 : decode cX2_verdict 13 = .ok (.aload_n 0, 1) := by decide +kernel
theorem dX2_verdict_14 : decode cX2_verdict 14 = .ok (.getfield 32, 3) := by decide +kernel
theorem dX2_verdict_17 : decode cX2_verdict 17 = .ok (.aload_n 0, 1) := by decide +kernel
theorem dX2_verdict_18 : decode cX2_verdict 18 = .ok (.getfield 28, 3) := by decide +kernel
theorem dX2_verdict_21 : decode cX2_verdict 21 = .ok (.iconst (-1), 1) := by decide +kernel
theorem dX2_verdict_22 : decode cX2_verdict 22 = .ok (.ixor, 1) := by decide +kernel
theorem dX2_verdict_23 : decode cX2_verdict 23 = .ok (.iand, 1) := by decide +kernel
theorem dX2_verdict_24 : decode cX2_verdict 24 = .ok (.invokestatic 39, 3) := by decide +kernel
theorem dX2_verdict_27 : decode cX2_verdict 27 = .ok (.istore_n 2, 1) := by decide +kernel
theorem dX2_verdict_28 : decode cX2_verdict 28 = .ok (.aload_n 0, 1) := by decide +kernel
theorem dX2_verdict_29 : decode cX2_verdict 29 = .ok (.iload_n 1, 1) := by decide +kernel
theorem dX2_verdict_30 : decode cX2_verdict 30 = .ok (.iload_n 2, 1) := by decide +kernel
theorem dX2_verdict_31 : decode cX2_verdict 31 = .ok (.invokevirtual 45, 3) := by decide +kernel
theorem dX2_verdict_34 : decode cX2_verdict 34 = .ok (.ifCond .eq 5, 3) := by decide +kernel
theorem dX2_verdict_37 : decode cX2_verdict 37 = .ok (.iconst 1, 1) := by decide +kernel
theorem dX2_verdict_38 : decode cX2_verdict 38 = .ok (.ireturn, 1) := by decide +kernel
theorem dX2_verdict_39 : decode cX2_verdict 39 = .ok (.aload_n 0, 1) := by decide +kernel
theorem dX2_verdict_40 : decode cX2_verdict 40 = .ok (.iload_n 2, 1) := by decide +kernel
theorem dX2_verdict_41 : decode cX2_verdict 41 = .ok (.iload_n 1, 1) := by decide +kernel
theorem dX2_verdict_42 : decode cX2_verdict 42 = .ok (.invokevirtual 45, 3) := by decide +kernel
theorem dX2_verdict_45 : decode cX2_verdict 45 = .ok (.ifCond .eq 7, 3) := by decide +kernel
theorem dX2_verdict_48 : decode cX2_verdict 48 = .ok (.iconst 0, 1) := by decide +kernel
theorem dX2_verdict_49 : decode cX2_verdict 49 = .ok (.goto 5, 3) := by decide +kernel
theorem dX2_verdict_52 : decode cX2_verdict 52 = .ok (.bipush 9, 2) := by decide +kernel
theorem dX2_verdict_54 : decode cX2_verdict 54 = .ok (.ireturn, 1) := by decide +kernel
theorem dX2_carries_0 : decode cX2_carries 0 = .ok (.iload_n 1, 1) := by decide +kernel
theorem dX2_carries_1 : decode cX2_carries 1 = .ok (.iload_n 2, 1) := by decide +kernel
theorem dX2_carries_2 : decode cX2_carries 2 = .ok (.if_icmp .le 22, 3) := by decide +kernel
theorem dX2_carries_5 : decode cX2_carries 5 = .ok (.iload_n 2, 1) := by decide +kernel
theorem dX2_carries_6 : decode cX2_carries 6 = .ok (.ifCond .eq 14, 3) := by decide +kernel
theorem dX2_carries_9 : decode cX2_carries 9 = .ok (.iload_n 1, 1) := by decide +kernel
theorem dX2_carries_10 : decode cX2_carries 10 = .ok (.aload_n 0, 1) := by decide +kernel
theorem dX2_carries_11 : decode cX2_carries 11 = .ok (.getfield 18, 3) := by decide +kernel
theorem dX2_carries_14 : decode cX2_carries 14 = .ok (.getfield 49, 3) := by decide +kernel
theorem dX2_carries_17 : decode cX2_carries 17 = .ok (.if_icmp .lt 7, 3) := by decide +kernel
theorem dX2_carries_20 : decode cX2_carries 20 = .ok (.iconst 1, 1) := by decide +kernel
theorem dX2_carries_21 : decode cX2_carries 21 = .ok (.goto 4, 3) := by decide +kernel
theorem dX2_carries_24 : decode cX2_carries 24 = .ok (.iconst 0, 1) := by decide +kernel
theorem dX2_carries_25 : decode cX2_carries 25 = .ok (.ireturn, 1) := by decide +kernel
set_option maxRecDepth 20000 in
theorem ggX2_passHour_X2_verdict : GoodIn wsX2_passHour wsX2_verdict := goodIn_r _ [7, 8, 2, 9, 10, 11, 12, 13, 14, 15, 16, 17, 18, 6, 19, 20, 21, 50, 51, 52, 53, 54, 55, 56, 57, 58, 59, 60, 61] (by decide +kernel) (by decide +kernel)
set_option maxRecDepth 20000 in
theorem gX2_passHour_X2_verdict : GoodIn wsX2_passHour (wsV RX2 52 RX2 yX2_verdict wsX2_verdict) := goodIn_app (goodIn_of _ (by decide +kernel)) ggX2_passHour_X2_verdict
set_option maxRecDepth 20000 in
theorem ggX2_passHour_X2_growHungry : GoodIn wsX2_passHour wsX2_growHungry := goodIn_r _ [25, 26, 20, 27, 28, 29, 30, 31, 32, 33, 34, 6, 35, 8, 36, 37, 38, 39, 1, 50, 51, 52, 53, 54, 55, 56, 57, 58, 59, 60, 61] (by decide +kernel) (by decide +kernel)
set_option maxRecDepth 20000 in
theorem gX2_passHour_X2_growHungry : GoodIn wsX2_passHour (wsV RX2 56 RX2 yX2_growHungry wsX2_growHungry) := goodIn_app (goodIn_of _ (by decide +kernel)) ggX2_passHour_X2_growHungry
set_option maxRecDepth 20000 in
theorem ggX2_passHour_X2_isThere : GoodIn wsX2_passHour wsX2_isThere := goodIn_r _ [35, 8, 50, 51, 52, 53, 54, 55] (by decide +kernel) (by decide +kernel)
set_option maxRecDepth 20000 in
theorem gX2_passHour_X2_isThere : GoodIn wsX2_passHour (wsV RX2 59 RX2 yX2_isThere wsX2_isThere) := goodIn_app (goodIn_of _ (by decide +kernel)) ggX2_passHour_X2_isThere
set_option maxRecDepth 20000 in
theorem ggX2_passHour_X2_mustGiveIn : GoodIn wsX2_passHour wsX2_mustGiveIn := goodIn_r _ [43, 8, 2, 26, 20, 27, 44, 45, 46, 47, 48, 6, 49, 9, 10, 11, 12, 13, 14, 15, 50, 51, 52, 53, 54, 55, 56, 57, 58, 59, 60, 61] (by decide +kernel) (by decide +kernel)
set_option maxRecDepth 20000 in
theorem gX2_passHour_X2_mustGiveIn : GoodIn wsX2_passHour (wsV RX2 63 RX2 yX2_mustGiveIn wsX2_mustGiveIn) := goodIn_app (goodIn_of _ (by decide +kernel)) ggX2_passHour_X2_mustGiveIn
theorem dX2_passHour_0 : decode cX2_passHour 0 = .ok (.aload_n 0, 1) := by decide +kernel
theorem dX2_passHour_1 : decode cX2_passHour 1 = .ok (.invokevirtual 52, 3) := by decide +kernel
theorem dX2_passHour_4 : decode cX2_passHour 4 = .ok (.bipush 9, 2) := by decide +kernel
theorem dX2_passHour_6 : decode cX2_passHour 6 = .ok (.if_icmp .eq 7, 3) := by decide +kernel
theorem dX2_passHour_9 : decode cX2_passHour 9 = .ok (.iconst 1, 1) := by decide +kernel
theorem dX2_passHour_10 : decode cX2_passHour 10 = .ok (.goto 4, 3) := by decide +kernel
theorem dX2_passHour_13 : decode cX2_passHour 13 = .ok (.iconst 0, 1) := by decide +kernel
theorem dX2_passHour_14 : decode cX2_passHour 14 = .ok (.istore_n 1, 1) := by decide +kernel
theorem dX2_passHour_15 : decode cX2_passHour 15 = .ok (.aload_n 0, 1) := by decide +kernel
theorem dX2_passHour_16 : decode cX2_passHour 16 = .ok (.dup, 1) := by decide +kernel
theorem dX2_passHour_17 : decode cX2_passHour 17 = .ok (.getfield 35, 3) := by decide +kernel
theorem dX2_passHour_20 : decode cX2_passHour 20 = .ok (.iconst 1, 1) := by decide +kernel
theorem dX2_passHour_21 : decode cX2_passHour 21 = .ok (.iadd, 1) := by decide +kernel
theorem dX2_passHour_22 : decode cX2_passHour 22 = .ok (.putfield 35, 3) := by decide +kernel
theorem dX2_passHour_25 : decode cX2_passHour 25 = .ok (.iload_n 1, 1) := by decide +kernel
theorem dX2_passHour_26 : decode cX2_passHour 26 = .ok (.ifCond .eq 5, 3) := by decide +kernel
theorem dX2_passHour_29 : decode cX2_passHour 29 = .ok (.iconst 0, 1) := by decide +kernel
theorem dX2_passHour_30 : decode cX2_passHour 30 = .ok (.ireturn, 1) := by decide +kernel
theorem dX2_passHour_31 : decode cX2_passHour 31 = .ok (.aload_n 0, 1) := by decide +kernel
theorem dX2_passHour_32 : decode cX2_passHour 32 = .ok (.invokevirtual 56, 3) := by decide +kernel
theorem dX2_passHour_35 : decode cX2_passHour 35 = .ok (.iconst 0, 1) := by decide +kernel
theorem dX2_passHour_36 : decode cX2_passHour 36 = .ok (.istore_n 2, 1) := by decide +kernel
theorem dX2_passHour_37 : decode cX2_passHour 37 = .ok (.iconst 0, 1) := by decide +kernel
theorem dX2_passHour_38 : decode cX2_passHour 38 = .ok (.istore_n 3, 1) := by decide +kernel
theorem dX2_passHour_39 : decode cX2_passHour 39 = .ok (.iload_n 3, 1) := by decide +kernel
theorem dX2_passHour_40 : decode cX2_passHour 40 = .ok (.bipush 6, 2) := by decide +kernel
theorem dX2_passHour_42 : decode cX2_passHour 42 = .ok (.if_icmp .ge 43, 3) := by decide +kernel
theorem dX2_passHour_45 : decode cX2_passHour 45 = .ok (.aload_n 0, 1) := by decide +kernel
theorem dX2_passHour_46 : decode cX2_passHour 46 = .ok (.iload_n 3, 1) := by decide +kernel
theorem dX2_passHour_47 : decode cX2_passHour 47 = .ok (.invokevirtual 59, 3) := by decide +kernel
theorem dX2_passHour_50 : decode cX2_passHour 50 = .ok (.ifCond .eq 29, 3) := by decide +kernel
theorem dX2_passHour_53 : decode cX2_passHour 53 = .ok (.aload_n 0, 1) := by decide +kernel
theorem dX2_passHour_54 : decode cX2_passHour 54 = .ok (.iload_n 3, 1) := by decide +kernel
theorem dX2_passHour_55 : decode cX2_passHour 55 = .ok (.invokevirtual 63, 3) := by decide +kernel
theorem dX2_passHour_58 : decode cX2_passHour 58 = .ok (.ifCond .eq 21, 3) := by decide +kernel
theorem dX2_passHour_61 : decode cX2_passHour 61 = .ok (.aload_n 0, 1) := by decide +kernel
theorem dX2_passHour_62 : decode cX2_passHour 62 = .ok (.dup, 1) := by decide +kernel
theorem dX2_passHour_63 : decode cX2_passHour 63 = .ok (.getfield 28, 3) := by decide +kernel
theorem dX2_passHour_66 : decode cX2_passHour 66 = .ok (.iconst 1, 1) := by decide +kernel
theorem dX2_passHour_67 : decode cX2_passHour 67 = .ok (.iload_n 3, 1) := by decide +kernel
theorem dX2_passHour_68 : decode cX2_passHour 68 = .ok (.ishl, 1) := by decide +kernel
theorem dX2_passHour_69 : decode cX2_passHour 69 = .ok (.ixor, 1) := by decide +kernel
theorem dX2_passHour_70 : decode cX2_passHour 70 = .ok (.putfield 28, 3) := by decide +kernel
theorem dX2_passHour_73 : decode cX2_passHour 73 = .ok (.iload_n 2, 1) := by decide +kernel
theorem dX2_passHour_74 : decode cX2_passHour 74 = .ok (.iconst 1, 1) := by decide +kernel
theorem dX2_passHour_75 : decode cX2_passHour 75 = .ok (.iload_n 3, 1) := by decide +kernel
theorem dX2_passHour_76 : decode cX2_passHour 76 = .ok (.ishl, 1) := by decide +kernel
theorem dX2_passHour_77 : decode cX2_passHour 77 = .ok (.ior, 1) := by decide +kernel
theorem dX2_passHour_78 : decode cX2_passHour 78 = .ok (.istore_n 2, 1) := by decide +kernel
theorem dX2_passHour_79 : decode cX2_passHour 79 = .ok (.iinc 3 1, 3) := by decide +kernel
theorem dX2_passHour_82 : decode cX2_passHour 82 = .ok (.goto (-43), 3) := by decide +kernel
theorem dX2_passHour_85 : decode cX2_passHour 85 = .ok (.iload_n 2, 1) := by decide +kernel
theorem dX2_passHour_86 : decode cX2_passHour 86 = .ok (.ireturn, 1) := by decide +kernel
set_option maxRecDepth 20000 in
theorem ggX2_growHungry_X2_isThere : GoodIn wsX2_growHungry wsX2_isThere := goodIn_r _ [12, 13, 19, 20, 21, 22, 23, 24] (by decide +kernel) (by decide +kernel)
set_option maxRecDepth 20000 in
theorem gX2_growHungry_X2_isThere : GoodIn wsX2_growHungry (wsV RX2 59 RX2 yX2_isThere wsX2_isThere) := goodIn_app (goodIn_of _ (by decide +kernel)) ggX2_growHungry_X2_isThere
set_option maxRecDepth 20000 in
theorem ggX2_growHungry_X2_hungerOfHour : GoodIn wsX2_growHungry wsX2_hungerOfHour := goodIn_r _ [17, 18, 19, 20, 21, 22, 23, 24] (by decide +kernel) (by decide +kernel)
set_option maxRecDepth 20000 in
theorem gX2_growHungry_X2_hungerOfHour : GoodIn wsX2_growHungry (wsV RX2 69 RX2 yX2_hungerOfHour wsX2_hungerOfHour) := goodIn_app (goodIn_of _ (by decide +kernel)) ggX2_growHungry_X2_hungerOfHour
theorem dX2_growHungry_0 : decode cX2_growHungry 0 = .ok (.iconst 0, 1) := by decide +kernel
theorem dX2_growHungry_1 : decode cX2_growHungry 1 = .ok (.istore_n 1, 1) := by decide +kernel
theorem dX2_growHungry_2 : decode cX2_growHungry 2 = .ok (.iload_n 1, 1) := by decide +kernel
theorem dX2_growHungry_3 : decode cX2_growHungry 3 = .ok (.bipush 6, 2) := by decide +kernel
theorem dX2_growHungry_5 : decode cX2_growHungry 5 = .ok (.if_icmp .ge 48, 3) := by decide +kernel
theorem dX2_growHungry_8 : decode cX2_growHungry 8 = .ok (.aload_n 0, 1) := by decide +kernel
theorem dX2_growHungry_9 : decode cX2_growHungry 9 = .ok (.iload_n 1, 1) := by decide +kernel
theorem dX2_growHungry_10 : decode cX2_growHungry 10 = .ok (.invokevirtual 59, 3) := by decide +kernel
theorem dX2_growHungry_13 : decode cX2_growHungry 13 = .ok (.ifCond .eq 34, 3) := by decide +kernel
theorem dX2_growHungry_16 : decode cX2_growHungry 16 = .ok (.aload_n 0, 1) := by decide +kernel
theorem dX2_growHungry_17 : decode cX2_growHungry 17 = .ok (.getfield 15, 3) := by decide +kernel
theorem dX2_growHungry_20 : decode cX2_growHungry 20 = .ok (.iload_n 1, 1) := by decide +kernel
theorem dX2_growHungry_21 : decode cX2_growHungry 21 = .ok (.bipush 20, 2) := by decide +kernel
theorem dX2_growHungry_23 : decode cX2_growHungry 23 = .ok (.aload_n 0, 1) := by decide +kernel
theorem dX2_growHungry_24 : decode cX2_growHungry 24 = .ok (.getfield 15, 3) := by decide +kernel
theorem dX2_growHungry_27 : decode cX2_growHungry 27 = .ok (.iload_n 1, 1) := by decide +kernel
theorem dX2_growHungry_28 : decode cX2_growHungry 28 = .ok (.iaload, 1) := by decide +kernel
theorem dX2_growHungry_29 : decode cX2_growHungry 29 = .ok (.aload_n 0, 1) := by decide +kernel
theorem dX2_growHungry_30 : decode cX2_growHungry 30 = .ok (.aload_n 0, 1) := by decide +kernel
theorem dX2_growHungry_31 : decode cX2_growHungry 31 = .ok (.getfield 18, 3) := by decide +kernel
theorem dX2_growHungry_34 : decode cX2_growHungry 34 = .ok (.getfield 66, 3) := by decide +kernel
theorem dX2_growHungry_37 : decode cX2_growHungry 37 = .ok (.iload_n 1, 1) := by decide +kernel
theorem dX2_growHungry_38 : decode cX2_growHungry 38 = .ok (.iaload, 1) := by decide +kernel
theorem dX2_growHungry_39 : decode cX2_growHungry 39 = .ok (.invokevirtual 69, 3) := by decide +kernel
theorem dX2_growHungry_42 : decode cX2_growHungry 42 = .ok (.iadd, 1) := by decide +kernel
theorem dX2_growHungry_43 : decode cX2_growHungry 43 = .ok (.invokestatic 72, 3) := by decide +kernel
theorem dX2_growHungry_46 : decode cX2_growHungry 46 = .ok (.iastore, 1) := by decide +kernel
theorem dX2_growHungry_47 : decode cX2_growHungry 47 = .ok (.iinc 1 1, 3) := by decide +kernel
theorem dX2_growHungry_50 : decode cX2_growHungry 50 = .ok (.goto (-48), 3) := by decide +kernel
theorem dX2_growHungry_53 : decode cX2_growHungry 53 = .ok (.return_, 1) := by decide +kernel
theorem dX2_hungerOfHour_0 : decode cX2_hungerOfHour 0 = .ok (.iload_n 1, 1) := by decide +kernel
theorem dX2_hungerOfHour_1 : decode cX2_hungerOfHour 1 = .ok (.iconst 2, 1) := by decide +kernel
theorem dX2_hungerOfHour_2 : decode cX2_hungerOfHour 2 = .ok (.if_icmp .ne 18, 3) := by decide +kernel
theorem dX2_hungerOfHour_5 : decode cX2_hungerOfHour 5 = .ok (.aload_n 0, 1) := by decide +kernel
theorem dX2_hungerOfHour_6 : decode cX2_hungerOfHour 6 = .ok (.getfield 35, 3) := by decide +kernel
theorem dX2_hungerOfHour_9 : decode cX2_hungerOfHour 9 = .ok (.iconst 1, 1) := by decide +kernel
theorem dX2_hungerOfHour_10 : decode cX2_hungerOfHour 10 = .ok (.iand, 1) := by decide +kernel
theorem dX2_hungerOfHour_11 : decode cX2_hungerOfHour 11 = .ok (.ifCond .ne 7, 3) := by decide +kernel
theorem dX2_hungerOfHour_14 : decode cX2_hungerOfHour 14 = .ok (.iconst 1, 1) := by decide +kernel
theorem dX2_hungerOfHour_15 : decode cX2_hungerOfHour 15 = .ok (.goto 4, 3) := by decide +kernel
theorem dX2_hungerOfHour_18 : decode cX2_hungerOfHour 18 = .ok (.iconst 0, 1) := by decide +kernel
theorem dX2_hungerOfHour_19 : decode cX2_hungerOfHour 19 = .ok (.ireturn, 1) := by decide +kernel
theorem dX2_hungerOfHour_20 : decode cX2_hungerOfHour 20 = .ok (.iload_n 1, 1) := by decide +kernel
theorem dX2_hungerOfHour_21 : decode cX2_hungerOfHour 21 = .ok (.iconst 1, 1) := by decide +kernel
theorem dX2_hungerOfHour_22 : decode cX2_hungerOfHour 22 = .ok (.if_icmp .ne 7, 3) := by decide +kernel
theorem dX2_hungerOfHour_25 : decode cX2_hungerOfHour 25 = .ok (.iconst 2, 1) := by decide +kernel
theorem dX2_hungerOfHour_26 : decode cX2_hungerOfHour 26 = .ok (.goto 4, 3) := by decide +kernel
theorem dX2_hungerOfHour_29 : decode cX2_hungerOfHour 29 = .ok (.iconst 1, 1) := by decide +kernel
theorem dX2_hungerOfHour_30 : decode cX2_hungerOfHour 30 = .ok (.ireturn, 1) := by decide +kernel
set_option maxRecDepth 20000 in
theorem ggX2_mustGiveIn_X2_isYes : GoodIn wsX2_mustGiveIn wsX2_isYes := goodIn_r _ [12, 2, 20, 21, 22, 23, 24, 25] (by decide +kernel) (by decide +kernel)
set_option maxRecDepth 20000 in
theorem gX2_mustGiveIn_X2_isYes : GoodIn wsX2_mustGiveIn (wsV RX2 78 RX2 yX2_isYes wsX2_isYes) := goodIn_app (goodIn_of _ (by decide +kernel)) ggX2_mustGiveIn_X2_isYes
set_option maxRecDepth 20000 in
theorem ggX2_mustGiveIn_J6_bitCount_0f7a4 : GoodIn wsX2_mustGiveIn wsJ6_bitCount_0f7a4 := goodIn_r _ [16, 17, 18, 19] (by decide +kernel) (by decide +kernel)
set_option maxRecDepth 20000 in
theorem gX2_mustGiveIn_J6_bitCount_0f7a4 : GoodIn wsX2_mustGiveIn (va_wsS RX2 39 yJ6_bitCount_0f7a4 wsJ6_bitCount_0f7a4) := goodIn_app (goodIn_of _ (by decide +kernel)) ggX2_mustGiveIn_J6_bitCount_0f7a4
theorem dX2_mustGiveIn_0 : decode cX2_mustGiveIn 0 = .ok (.iload_n 1, 1) := by decide +kernel
theorem dX2_mustGiveIn_1 : decode cX2_mustGiveIn 1 = .ok (.ifCond .lt 9, 3) := by decide +kernel
theorem dX2_mustGiveIn_4 : decode cX2_mustGiveIn 4 = .ok (.iload_n 1, 1) := by decide +kernel
theorem dX2_mustGiveIn_5 : decode cX2_mustGiveIn 5 = .ok (.bipush 6, 2) := by decide +kernel
theorem dX2_mustGiveIn_7 : decode cX2_mustGiveIn 7 = .ok (.if_icmp .lt 5, 3) := by decide +kernel
theorem dX2_mustGiveIn_10 : decode cX2_mustGiveIn 10 = .ok (.iconst 0, 1) := by decide +kernel
theorem dX2_mustGiveIn_11 : decode cX2_mustGiveIn 11 = .ok (.ireturn, 1) := by decide +kernel
theorem dX2_mustGiveIn_12 : decode cX2_mustGiveIn 12 = .ok (.aload_n 0, 1) := by decide +kernel
theorem dX2_mustGiveIn_13 : decode cX2_mustGiveIn 13 = .ok (.iload_n 1, 1) := by decide +kernel
theorem dX2_mustGiveIn_14 : decode cX2_mustGiveIn 14 = .ok (.invokevirtual 78, 3) := by decide +kernel
theorem dX2_mustGiveIn_17 : decode cX2_mustGiveIn 17 = .ok (.ifCond .eq 17, 3) := by decide +kernel
theorem dX2_mustGiveIn_20 : decode cX2_mustGiveIn 20 = .ok (.aload_n 0, 1) := by decide +kernel
theorem dX2_mustGiveIn_21 : decode cX2_mustGiveIn 21 = .ok (.getfield 32, 3) := by decide +kernel
theorem dX2_mustGiveIn_24 : decode cX2_mustGiveIn 24 = .ok (.aload_n 0, 1) := by decide +kernel
theorem dX2_mustGiveIn_25 : decode cX2_mustGiveIn 25 = .ok (.getfield 28, 3) := by decide +kernel
theorem dX2_mustGiveIn_28 : decode cX2_mustGiveIn 28 = .ok (.iconst (-1), 1) := by decide +kernel
theorem dX2_mustGiveIn_29 : decode cX2_mustGiveIn 29 = .ok (.ixor, 1) := by decide +kernel
theorem dX2_mustGiveIn_30 : decode cX2_mustGiveIn 30 = .ok (.iand, 1) := by decide +kernel
theorem dX2_mustGiveIn_31 : decode cX2_mustGiveIn 31 = .ok (.goto 12, 3) := by decide +kernel
theorem dX2_mustGiveIn_34 : decode cX2_mustGiveIn 34 = .ok (.aload_n 0, 1) := by decide +kernel
theorem dX2_mustGiveIn_35 : decode cX2_mustGiveIn 35 = .ok (.getfield 32, 3) := by decide +kernel
theorem dX2_mustGiveIn_38 : decode cX2_mustGiveIn 38 = .ok (.aload_n 0, 1) := by decide +kernel
theorem dX2_mustGiveIn_39 : decode cX2_mustGiveIn 39 = .ok (.getfield 28, 3) := by decide +kernel
theorem dX2_mustGiveIn_42 : decode cX2_mustGiveIn 42 = .ok (.iand, 1) := by decide +kernel
theorem dX2_mustGiveIn_43 : decode cX2_mustGiveIn 43 = .ok (.istore_n 2, 1) := by decide +kernel
theorem dX2_mustGiveIn_44 : decode cX2_mustGiveIn 44 = .ok (.iload_n 2, 1) := by decide +kernel
theorem dX2_mustGiveIn_45 : decode cX2_mustGiveIn 45 = .ok (.invokestatic 39, 3) := by decide +kernel
theorem dX2_mustGiveIn_48 : decode cX2_mustGiveIn 48 = .ok (.aload_n 0, 1) := by decide +kernel
theorem dX2_mustGiveIn_49 : decode cX2_mustGiveIn 49 = .ok (.getfield 32, 3) := by decide +kernel
theorem dX2_mustGiveIn_52 : decode cX2_mustGiveIn 52 = .ok (.iload_n 2, 1) := by decide +kernel
theorem dX2_mustGiveIn_53 : decode cX2_mustGiveIn 53 = .ok (.iconst (-1), 1) := by decide +kernel
theorem dX2_mustGiveIn_54 : decode cX2_mustGiveIn 54 = .ok (.ixor, 1) := by decide +kernel
theorem dX2_mustGiveIn_55 : decode cX2_mustGiveIn 55 = .ok (.iand, 1) := by decide +kernel
theorem dX2_mustGiveIn_56 : decode cX2_mustGiveIn 56 = .ok (.invokestatic 39, 3) := by decide +kernel
theorem dX2_mustGiveIn_59 : decode cX2_mustGiveIn 59 = .ok (.isub, 1) := by decide +kernel
theorem dX2_mustGiveIn_60 : decode cX2_mustGiveIn 60 = .ok (.istore_n 3, 1) := by decide +kernel
theorem dX2_mustGiveIn_61 : decode cX2_mustGiveIn 61 = .ok (.iload_n 3, 1) := by decide +kernel
theorem dX2_mustGiveIn_62 : decode cX2_mustGiveIn 62 = .ok (.ifCond .gt 5, 3) := by decide +kernel
theorem dX2_mustGiveIn_65 : decode cX2_mustGiveIn 65 = .ok (.iconst 0, 1) := by decide +kernel
theorem dX2_mustGiveIn_66 : decode cX2_mustGiveIn 66 = .ok (.ireturn, 1) := by decide +kernel
theorem dX2_mustGiveIn_67 : decode cX2_mustGiveIn 67 = .ok (.aload_n 0, 1) := by decide +kernel
theorem dX2_mustGiveIn_68 : decode cX2_mustGiveIn 68 = .ok (.getfield 15, 3) := by decide +kernel
theorem dX2_mustGiveIn_71 : decode cX2_mustGiveIn 71 = .ok (.iload_n 1, 1) := by decide +kernel
theorem dX2_mustGiveIn_72 : decode cX2_mustGiveIn 72 = .ok (.iaload, 1) := by decide +kernel
theorem dX2_mustGiveIn_73 : decode cX2_mustGiveIn 73 = .ok (.istore 4, 2) := by decide +kernel
theorem dX2_mustGiveIn_75 : decode cX2_mustGiveIn 75 = .ok (.aload_n 0, 1) := by decide +kernel
theorem dX2_mustGiveIn_76 : decode cX2_mustGiveIn 76 = .ok (.getfield 18, 3) := by decide +kernel
theorem dX2_mustGiveIn_79 : decode cX2_mustGiveIn 79 = .ok (.getfield 66, 3) := by decide +kernel
theorem dX2_mustGiveIn_82 : decode cX2_mustGiveIn 82 = .ok (.iload_n 1, 1) := by decide +kernel
theorem dX2_mustGiveIn_83 : decode cX2_mustGiveIn 83 = .ok (.iaload, 1) := by decide +kernel
theorem dX2_mustGiveIn_84 : decode cX2_mustGiveIn 84 = .ok (.iconst 3, 1) := by decide +kernel
theorem dX2_mustGiveIn_85 : decode cX2_mustGiveIn 85 = .ok (.if_icmp .eq 26, 3) := by decide +kernel
theorem dX2_mustGiveIn_88 : decode cX2_mustGiveIn 88 = .ok (.iload 4, 2) := by decide +kernel
theorem dX2_mustGiveIn_90 : decode cX2_mustGiveIn 90 = .ok (.iload_n 3, 1) := by decide +kernel
theorem dX2_mustGiveIn_91 : decode cX2_mustGiveIn 91 = .ok (.iconst 2, 1) := by decide +kernel
theorem dX2_mustGiveIn_92 : decode cX2_mustGiveIn 92 = .ok (.aload_n 0, 1) := by decide +kernel
theorem dX2_mustGiveIn_93 : decode cX2_mustGiveIn 93 = .ok (.getfield 18, 3) := by decide +kernel
theorem dX2_mustGiveIn_96 : decode cX2_mustGiveIn 96 = .ok (.getfield 81, 3) := by decide +kernel
theorem dX2_mustGiveIn_99 : decode cX2_mustGiveIn 99 = .ok (.iload_n 1, 1) := by decide +kernel
theorem dX2_mustGiveIn_100 : decode cX2_mustGiveIn 100 = .ok (.iaload, 1) := by decide +kernel
theorem dX2_mustGiveIn_101 : decode cX2_mustGiveIn 101 = .ok (.iload_n 2, 1) := by decide +kernel
theorem dX2_mustGiveIn_102 : decode cX2_mustGiveIn 102 = .ok (.iand, 1) := by decide +kernel
theorem dX2_mustGiveIn_103 : decode cX2_mustGiveIn 103 = .ok (.invokestatic 39, 3) := by decide +kernel
theorem dX2_mustGiveIn_106 : decode cX2_mustGiveIn 106 = .ok (.imul, 1) := by decide +kernel
theorem dX2_mustGiveIn_107 : decode cX2_mustGiveIn 107 = .ok (.iadd, 1) := by decide +kernel
theorem dX2_mustGiveIn_108 : decode cX2_mustGiveIn 108 = .ok (.iadd, 1) := by decide +kernel
theorem dX2_mustGiveIn_109 : decode cX2_mustGiveIn 109 = .ok (.istore 4, 2) := by decide +kernel
theorem dX2_mustGiveIn_111 : decode cX2_mustGiveIn 111 = .ok (.iload 4, 2) := by decide +kernel
theorem dX2_mustGiveIn_113 : decode cX2_mustGiveIn 113 = .ok (.aload_n 0, 1) := by decide +kernel
theorem dX2_mustGiveIn_114 : decode cX2_mustGiveIn 114 = .ok (.getfield 9, 3) := by decide +kernel
theorem dX2_mustGiveIn_117 : decode cX2_mustGiveIn 117 = .ok (.iload_n 1, 1) := by decide +kernel
theorem dX2_mustGiveIn_118 : decode cX2_mustGiveIn 118 = .ok (.iaload, 1) := by decide +kernel
theorem dX2_mustGiveIn_119 : decode cX2_mustGiveIn 119 = .ok (.if_icmp .lt 7, 3) := by decide +kernel
theorem dX2_mustGiveIn_122 : decode cX2_mustGiveIn 122 = .ok (.iconst 1, 1) := by decide +kernel
theorem dX2_mustGiveIn_123 : decode cX2_mustGiveIn 123 = .ok (.goto 4, 3) := by decide +kernel
theorem dX2_mustGiveIn_126 : decode cX2_mustGiveIn 126 = .ok (.iconst 0, 1) := by decide +kernel
theorem dX2_mustGiveIn_127 : decode cX2_mustGiveIn 127 = .ok (.ireturn, 1) := by decide +kernel
set_option maxRecDepth 20000 in
theorem ggX2_passHoursToEnd_X2_verdict : GoodIn wsX2_passHoursToEnd wsX2_verdict := goodIn_r _ [5, 6, 7, 8, 9, 10, 11, 12, 13, 14, 15, 16, 17, 4, 18, 19, 20, 54, 55, 56, 57, 58, 59, 60, 61, 62, 63, 64, 65] (by decide +kernel) (by decide +kernel)
set_option maxRecDepth 20000 in
theorem gX2_passHoursToEnd_X2_verdict : GoodIn wsX2_passHoursToEnd (wsV RX2 52 RX2 yX2_verdict wsX2_verdict) := goodIn_app (goodIn_of _ (by decide +kernel)) ggX2_passHoursToEnd_X2_verdict
set_option maxRecDepth 20000 in
theorem ggX2_passHoursToEnd_X2_passHour : GoodIn wsX2_passHoursToEnd wsX2_passHour := goodIn_r _ [24, 25, 7, 1, 2, 3, 4, 5, 6, 8, 9, 10, 11, 12, 13, 14, 15, 16, 17, 18, 19, 20, 26, 27, 28, 29, 30, 31, 32, 33, 34, 35, 36, 37, 38, 39, 40, 41, 42, 43, 44, 45, 46, 47, 48, 49, 50, 51, 52, 53, 54, 55, 56, 57, 58, 59, 60, 61, 62, 63, 64, 65] (by decide +kernel) (by decide +kernel)
set_option maxRecDepth 20000 in
theorem gX2_passHoursToEnd_X2_passHour : GoodIn wsX2_passHoursToEnd (wsV RX2 84 RX2 yX2_passHour wsX2_passHour) := goodIn_app (goodIn_of _ (by decide +kernel)) ggX2_passHoursToEnd_X2_passHour
theorem dX2_passHoursToEnd_0 : decode cX2_passHoursToEnd 0 = .ok (.iconst 0, 1) := by decide +kernel
theorem dX2_passHoursToEnd_1 : decode cX2_passHoursToEnd 1 = .ok (.istore_n 1, 1) := by decide +kernel
theorem dX2_passHoursToEnd_2 : decode cX2_passHoursToEnd 2 = .ok (.iload_n 1, 1) := by decide +kernel
theorem dX2_passHoursToEnd_3 : decode cX2_passHoursToEnd 3 = .ok (.bipush 20, 2) := by decide +kernel
theorem dX2_passHoursToEnd_5 : decode cX2_passHoursToEnd 5 = .ok (.if_icmp .ge 25, 3) := by decide +kernel
theorem dX2_passHoursToEnd_8 : decode cX2_passHoursToEnd 8 = .ok (.aload_n 0, 1) := by decide +kernel
theorem dX2_passHoursToEnd_9 : decode cX2_passHoursToEnd 9 = .ok (.invokevirtual 52, 3) := by decide +kernel
theorem dX2_passHoursToEnd_12 : decode cX2_passHoursToEnd 12 = .ok (.bipush 9, 2) := by decide +kernel
theorem dX2_passHoursToEnd_14 : decode cX2_passHoursToEnd 14 = .ok (.if_icmp .eq 5, 3) := by decide +kernel
theorem dX2_passHoursToEnd_17 : decode cX2_passHoursToEnd 17 = .ok (.iload_n 1, 1) := by decide +kernel
theorem dX2_passHoursToEnd_18 : decode cX2_passHoursToEnd 18 = .ok (.ireturn, 1) := by decide +kernel
theorem dX2_passHoursToEnd_19 : decode cX2_passHoursToEnd 19 = .ok (.aload_n 0, 1) := by decide +kernel
theorem dX2_passHoursToEnd_20 : decode cX2_passHoursToEnd 20 = .ok (.invokevirtual 84, 3) := by decide +kernel
theorem dX2_passHoursToEnd_23 : decode cX2_passHoursToEnd 23 = .ok (.pop, 1) := by decide +kernel
theorem dX2_passHoursToEnd_24 : decode cX2_passHoursToEnd 24 = .ok (.iinc 1 1, 3) := by decide +kernel
theorem dX2_passHoursToEnd_27 : decode cX2_passHoursToEnd 27 = .ok (.goto (-25), 3) := by decide +kernel
theorem dX2_passHoursToEnd_30 : decode cX2_passHoursToEnd 30 = .ok (.aload_n 0, 1) := by decide +kernel
theorem dX2_passHoursToEnd_31 : decode cX2_passHoursToEnd 31 = .ok (.invokevirtual 52, 3) := by decide +kernel
theorem dX2_passHoursToEnd_34 : decode cX2_passHoursToEnd 34 = .ok (.bipush 9, 2) := by decide +kernel
theorem dX2_passHoursToEnd_36 : decode cX2_passHoursToEnd 36 = .ok (.if_icmp .eq 8, 3) := by decide +kernel
theorem dX2_passHoursToEnd_39 : decode cX2_passHoursToEnd 39 = .ok (.bipush 20, 2) := by decide +kernel
theorem dX2_passHoursToEnd_41 : decode cX2_passHoursToEnd 41 = .ok (.goto 5, 3) := by decide +kernel
theorem dX2_passHoursToEnd_44 : decode cX2_passHoursToEnd 44 = .ok (.bipush (-9), 2) := by decide +kernel
theorem dX2_passHoursToEnd_46 : decode cX2_passHoursToEnd 46 = .ok (.ireturn, 1) := by decide +kernel
set_option maxRecDepth 20000 in
theorem ggX2_canDo_X2_isThere : GoodIn wsX2_canDo wsX2_isThere := goodIn_r _ [7, 8, 9, 10, 11, 12, 13, 14] (by decide +kernel) (by decide +kernel)
set_option maxRecDepth 20000 in
theorem gX2_canDo_X2_isThere : GoodIn wsX2_canDo (wsV RX2 59 RX2 yX2_isThere wsX2_isThere) := goodIn_app (goodIn_of _ (by decide +kernel)) ggX2_canDo_X2_isThere
theorem dX2_canDo_0 : decode cX2_canDo 0 = .ok (.iload_n 1, 1) := by decide +kernel
theorem dX2_canDo_1 : decode cX2_canDo 1 = .ok (.ifCond .ne 13, 3) := by decide +kernel
theorem dX2_canDo_4 : decode cX2_canDo 4 = .ok (.iload_n 2, 1) := by decide +kernel
theorem dX2_canDo_5 : decode cX2_canDo 5 = .ok (.ifCond .ne 7, 3) := by decide +kernel
theorem dX2_canDo_8 : decode cX2_canDo 8 = .ok (.iconst 1, 1) := by decide +kernel
theorem dX2_canDo_9 : decode cX2_canDo 9 = .ok (.goto 4, 3) := by decide +kernel
theorem dX2_canDo_12 : decode cX2_canDo 12 = .ok (.iconst 0, 1) := by decide +kernel
theorem dX2_canDo_13 : decode cX2_canDo 13 = .ok (.ireturn, 1) := by decide +kernel
theorem dX2_canDo_14 : decode cX2_canDo 14 = .ok (.iload_n 2, 1) := by decide +kernel
theorem dX2_canDo_15 : decode cX2_canDo 15 = .ok (.ifCond .lt 17, 3) := by decide +kernel
theorem dX2_canDo_18 : decode cX2_canDo 18 = .ok (.iload_n 2, 1) := by decide +kernel
theorem dX2_canDo_19 : decode cX2_canDo 19 = .ok (.bipush 6, 2) := by decide +kernel
theorem dX2_canDo_21 : decode cX2_canDo 21 = .ok (.if_icmp .ge 11, 3) := by decide +kernel
theorem dX2_canDo_24 : decode cX2_canDo 24 = .ok (.aload_n 0, 1) := by decide +kernel
theorem dX2_canDo_25 : decode cX2_canDo 25 = .ok (.iload_n 2, 1) := by decide +kernel
theorem dX2_canDo_26 : decode cX2_canDo 26 = .ok (.invokevirtual 59, 3) := by decide +kernel
theorem dX2_canDo_29 : decode cX2_canDo 29 = .ok (.ifCond .ne 5, 3) := by decide +kernel
theorem dX2_canDo_32 : decode cX2_canDo 32 = .ok (.iconst 0, 1) := by decide +kernel
theorem dX2_canDo_33 : decode cX2_canDo 33 = .ok (.ireturn, 1) := by decide +kernel
theorem dX2_canDo_34 : decode cX2_canDo 34 = .ok (.iload_n 1, 1) := by decide +kernel
theorem dX2_canDo_35 : decode cX2_canDo 35 = .ok (.lookupswitch 56 #[(1, 25), (2, 41)], 25) := by decide +kernel
theorem dX2_canDo_60 : decode cX2_canDo 60 = .ok (.aload_n 0, 1) := by decide +kernel
theorem dX2_canDo_61 : decode cX2_canDo 61 = .ok (.getfield 9, 3) := by decide +kernel
theorem dX2_canDo_64 : decode cX2_canDo 64 = .ok (.iload_n 2, 1) := by decide +kernel
theorem dX2_canDo_65 : decode cX2_canDo 65 = .ok (.iaload, 1) := by decide +kernel
theorem dX2_canDo_66 : decode cX2_canDo 66 = .ok (.iconst 1, 1) := by decide +kernel
theorem dX2_canDo_67 : decode cX2_canDo 67 = .ok (.if_icmp .le 7, 3) := by decide +kernel
theorem dX2_canDo_70 : decode cX2_canDo 70 = .ok (.iconst 1, 1) := by decide +kernel
theorem dX2_canDo_71 : decode cX2_canDo 71 = .ok (.goto 4, 3) := by decide +kernel
theorem dX2_canDo_74 : decode cX2_canDo 74 = .ok (.iconst 0, 1) := by decide +kernel
theorem dX2_canDo_75 : decode cX2_canDo 75 = .ok (.ireturn, 1) := by decide +kernel
theorem dX2_canDo_76 : decode cX2_canDo 76 = .ok (.aload_n 0, 1) := by decide +kernel
theorem dX2_canDo_77 : decode cX2_canDo 77 = .ok (.getfield 15, 3) := by decide +kernel
theorem dX2_canDo_80 : decode cX2_canDo 80 = .ok (.iload_n 2, 1) := by decide +kernel
theorem dX2_canDo_81 : decode cX2_canDo 81 = .ok (.iaload, 1) := by decide +kernel
theorem dX2_canDo_82 : decode cX2_canDo 82 = .ok (.ifCond .le 7, 3) := by decide +kernel
theorem dX2_canDo_85 : decode cX2_canDo 85 = .ok (.iconst 1, 1) := by decide +kernel
theorem dX2_canDo_86 : decode cX2_canDo 86 = .ok (.goto 4, 3) := by decide +kernel
theorem dX2_canDo_89 : decode cX2_canDo 89 = .ok (.iconst 0, 1) := by decide +kernel
theorem dX2_canDo_90 : decode cX2_canDo 90 = .ok (.ireturn, 1) := by decide +kernel
theorem dX2_canDo_91 : decode cX2_canDo 91 = .ok (.iload_n 1, 1) := by decide +kernel
theorem dX2_canDo_92 : decode cX2_canDo 92 = .ok (.iconst 3, 1) := by decide +kernel
theorem dX2_canDo_93 : decode cX2_canDo 93 = .ok (.if_icmp .eq 8, 3) := by decide +kernel
theorem dX2_canDo_96 : decode cX2_canDo 96 = .ok (.iload_n 1, 1) := by decide +kernel
theorem dX2_canDo_97 : decode cX2_canDo 97 = .ok (.iconst 4, 1) := by decide +kernel
theorem dX2_canDo_98 : decode cX2_canDo 98 = .ok (.if_icmp .ne 7, 3) := by decide +kernel
theorem dX2_canDo_101 : decode cX2_canDo 101 = .ok (.iconst 1, 1) := by decide +kernel
theorem dX2_canDo_102 : decode cX2_canDo 102 = .ok (.goto 4, 3) := by decide +kernel
theorem dX2_canDo_105 : decode cX2_canDo 105 = .ok (.iconst 0, 1) := by decide +kernel
theorem dX2_canDo_106 : decode cX2_canDo 106 = .ok (.ireturn, 1) := by decide +kernel
set_option maxRecDepth 20000 in
theorem ggX2_carryOut_X2_passHour : GoodIn wsX2_carryOut wsX2_passHour := goodIn_r _ [14, 8, 9, 15, 16, 17, 13, 18, 7, 19, 20, 21, 22, 23, 24, 25, 26, 27, 28, 29, 30, 31, 32, 33, 34, 35, 6, 36, 37, 38, 4, 39, 40, 41, 42, 43, 44, 45, 46, 47, 48, 49, 50, 51, 52, 1, 53, 54, 55, 56, 57, 58, 59, 60, 61, 62, 63, 64, 65, 66, 67, 68] (by decide +kernel) (by decide +kernel)
set_option maxRecDepth 20000 in
theorem gX2_carryOut_X2_passHour : GoodIn wsX2_carryOut (wsV RX2 84 RX2 yX2_passHour wsX2_passHour) := goodIn_app (goodIn_of _ (by decide +kernel)) ggX2_carryOut_X2_passHour
theorem dX2_carryOut_0 : decode cX2_carryOut 0 = .ok (.iload_n 2, 1) := by decide +kernel
theorem dX2_carryOut_1 : decode cX2_carryOut 1 = .ok (.ifCond .lt 9, 3) := by decide +kernel
theorem dX2_carryOut_4 : decode cX2_carryOut 4 = .ok (.iload_n 2, 1) := by decide +kernel
theorem dX2_carryOut_5 : decode cX2_carryOut 5 = .ok (.bipush 6, 2) := by decide +kernel
theorem dX2_carryOut_7 : decode cX2_carryOut 7 = .ok (.if_icmp .lt 4, 3) := by decide +kernel
theorem dX2_carryOut_10 : decode cX2_carryOut 10 = .ok (.return_, 1) := by decide +kernel
theorem dX2_carryOut_11 : decode cX2_carryOut 11 = .ok (.iload_n 1, 1) := by decide +kernel
theorem dX2_carryOut_12 : decode cX2_carryOut 12 = .ok (.tableswitch 112 0 4 #[36, 44, 65, 75, 97], 36) := by decide +kernel
theorem dX2_carryOut_48 : decode cX2_carryOut 48 = .ok (.aload_n 0, 1) := by decide +kernel
theorem dX2_carryOut_49 : decode cX2_carryOut 49 = .ok (.invokevirtual 84, 3) := by decide +kernel
theorem dX2_carryOut_52 : decode cX2_carryOut 52 = .ok (.pop, 1) := by decide +kernel
theorem dX2_carryOut_53 : decode cX2_carryOut 53 = .ok (.goto 71, 3) := by decide +kernel
theorem dX2_carryOut_56 : decode cX2_carryOut 56 = .ok (.aload_n 0, 1) := by decide +kernel
theorem dX2_carryOut_57 : decode cX2_carryOut 57 = .ok (.getfield 9, 3) := by decide +kernel
theorem dX2_carryOut_60 : decode cX2_carryOut 60 = .ok (.iload_n 2, 1) := by decide +kernel
theorem dX2_carryOut_61 : decode cX2_carryOut 61 = .ok (.iconst 1, 1) := by decide +kernel
theorem dX2_carryOut_62 : decode cX2_carryOut 62 = .ok (.aload_n 0, 1) := by decide +kernel
theorem dX2_carryOut_63 : decode cX2_carryOut 63 = .ok (.getfield 9, 3) := by decide +kernel
theorem dX2_carryOut_66 : decode cX2_carryOut 66 = .ok (.iload_n 2, 1) := by decide +kernel
theorem dX2_carryOut_67 : decode cX2_carryOut 67 = .ok (.iaload, 1) := by decide +kernel
theorem dX2_carryOut_68 : decode cX2_carryOut 68 = .ok (.iconst 1, 1) := by decide +kernel
theorem dX2_carryOut_69 : decode cX2_carryOut 69 = .ok (.isub, 1) := by decide +kernel
theorem dX2_carryOut_70 : decode cX2_carryOut 70 = .ok (.invokestatic 87, 3) := by decide +kernel
theorem dX2_carryOut_73 : decode cX2_carryOut 73 = .ok (.iastore, 1) := by decide +kernel
theorem dX2_carryOut_74 : decode cX2_carryOut 74 = .ok (.goto 50, 3) := by decide +kernel
theorem dX2_carryOut_77 : decode cX2_carryOut 77 = .ok (.aload_n 0, 1) := by decide +kernel
theorem dX2_carryOut_78 : decode cX2_carryOut 78 = .ok (.getfield 15, 3) := by decide +kernel
theorem dX2_carryOut_81 : decode cX2_carryOut 81 = .ok (.iload_n 2, 1) := by decide +kernel
theorem dX2_carryOut_82 : decode cX2_carryOut 82 = .ok (.iconst 0, 1) := by decide +kernel
theorem dX2_carryOut_83 : decode cX2_carryOut 83 = .ok (.iastore, 1) := by decide +kernel
theorem dX2_carryOut_84 : decode cX2_carryOut 84 = .ok (.goto 40, 3) := by decide +kernel
theorem dX2_carryOut_87 : decode cX2_carryOut 87 = .ok (.aload_n 0, 1) := by decide +kernel
theorem dX2_carryOut_88 : decode cX2_carryOut 88 = .ok (.dup, 1) := by decide +kernel
theorem dX2_carryOut_89 : decode cX2_carryOut 89 = .ok (.getfield 32, 3) := by decide +kernel
theorem dX2_carryOut_92 : decode cX2_carryOut 92 = .ok (.iconst 1, 1) := by decide +kernel
theorem dX2_carryOut_93 : decode cX2_carryOut 93 = .ok (.iload_n 2, 1) := by decide +kernel
theorem dX2_carryOut_94 : decode cX2_carryOut 94 = .ok (.ishl, 1) := by decide +kernel
theorem dX2_carryOut_95 : decode cX2_carryOut 95 = .ok (.iconst (-1), 1) := by decide +kernel
theorem dX2_carryOut_96 : decode cX2_carryOut 96 = .ok (.ixor, 1) := by decide +kernel
theorem dX2_carryOut_97 : decode cX2_carryOut 97 = .ok (.iand, 1) := by decide +kernel
theorem dX2_carryOut_98 : decode cX2_carryOut 98 = .ok (.putfield 32, 3) := by decide +kernel
theorem dX2_carryOut_101 : decode cX2_carryOut 101 = .ok (.aload_n 0, 1) := by decide +kernel
theorem dX2_carryOut_102 : decode cX2_carryOut 102 = .ok (.iconst 0, 1) := by decide +kernel
theorem dX2_carryOut_103 : decode cX2_carryOut 103 = .ok (.putfield 35, 3) := by decide +kernel
theorem dX2_carryOut_106 : decode cX2_carryOut 106 = .ok (.goto 18, 3) := by decide +kernel
theorem dX2_carryOut_109 : decode cX2_carryOut 109 = .ok (.aload_n 0, 1) := by decide +kernel
theorem dX2_carryOut_110 : decode cX2_carryOut 110 = .ok (.dup, 1) := by decide +kernel
theorem dX2_carryOut_111 : decode cX2_carryOut 111 = .ok (.getfield 28, 3) := by decide +kernel
theorem dX2_carryOut_114 : decode cX2_carryOut 114 = .ok (.iconst 1, 1) := by decide +kernel
theorem dX2_carryOut_115 : decode cX2_carryOut 115 = .ok (.iload_n 2, 1) := by decide +kernel
theorem dX2_carryOut_116 : decode cX2_carryOut 116 = .ok (.ishl, 1) := by decide +kernel
theorem dX2_carryOut_117 : decode cX2_carryOut 117 = .ok (.ixor, 1) := by decide +kernel
theorem dX2_carryOut_118 : decode cX2_carryOut 118 = .ok (.putfield 28, 3) := by decide +kernel
theorem dX2_carryOut_121 : decode cX2_carryOut 121 = .ok (.goto 3, 3) := by decide +kernel
theorem dX2_carryOut_124 : decode cX2_carryOut 124 = .ok (.return_, 1) := by decide +kernel
theorem dX3_init_0 : decode cX3_init 0 = .ok (.aload_n 0, 1) := by decide +kernel
theorem dX3_init_1 : decode cX3_init 1 = .ok (.invokespecial 3, 3) := by decide +kernel
theorem dX3_init_4 : decode cX3_init 4 = .ok (.aload_n 0, 1) := by decide +kernel
theorem dX3_init_5 : decode cX3_init 5 = .ok (.bipush 6, 2) := by decide +kernel
theorem dX3_init_7 : decode cX3_init 7 = .ok (.newarray .int, 2) := by decide +kernel
theorem dX3_init_9 : decode cX3_init 9 = .ok (.putfield 9, 3) := by decide +kernel
theorem dX3_init_12 : decode cX3_init 12 = .ok (.aload_n 0, 1) := by decide +kernel
theorem dX3_init_13 : decode cX3_init 13 = .ok (.bipush 6, 2) := by decide +kernel
theorem dX3_init_15 : decode cX3_init 15 = .ok (.newarray .int, 2) := by decide +kernel
theorem dX3_init_17 : decode cX3_init 17 = .ok (.putfield 15, 3) := by decide +kernel
theorem dX3_init_20 : decode cX3_init 20 = .ok (.aload_n 0, 1) := by decide +kernel
theorem dX3_init_21 : decode cX3_init 21 = .ok (.bipush 6, 2) := by decide +kernel
theorem dX3_init_23 : decode cX3_init 23 = .ok (.newarray .int, 2) := by decide +kernel
theorem dX3_init_25 : decode cX3_init 25 = .ok (.putfield 18, 3) := by decide +kernel
theorem dX3_init_28 : decode cX3_init 28 = .ok (.return_, 1) := by decide +kernel
theorem dX3_add_0 : decode cX3_add 0 = .ok (.aload_n 0, 1) := by decide +kernel
theorem dX3_add_1 : decode cX3_add 1 = .ok (.getfield 21, 3) := by decide +kernel
theorem dX3_add_4 : decode cX3_add 4 = .ok (.ifCond .lt 12, 3) := by decide +kernel
theorem dX3_add_7 : decode cX3_add 7 = .ok (.aload_n 0, 1) := by decide +kernel
theorem dX3_add_8 : decode cX3_add 8 = .ok (.getfield 21, 3) := by decide +kernel
theorem dX3_add_11 : decode cX3_add 11 = .ok (.bipush 6, 2) := by decide +kernel
theorem dX3_add_13 : decode cX3_add 13 = .ok (.if_icmp .lt 5, 3) := by decide +kernel
theorem dX3_add_16 : decode cX3_add 16 = .ok (.iconst 0, 1) := by decide +kernel
theorem dX3_add_17 : decode cX3_add 17 = .ok (.ireturn, 1) := by decide +kernel
theorem dX3_add_18 : decode cX3_add 18 = .ok (.aload_n 0, 1) := by decide +kernel
theorem dX3_add_19 : decode cX3_add 19 = .ok (.getfield 9, 3) := by decide +kernel
theorem dX3_add_22 : decode cX3_add 22 = .ok (.aload_n 0, 1) := by decide +kernel
theorem dX3_add_23 : decode cX3_add 23 = .ok (.getfield 21, 3) := by decide +kernel
theorem dX3_add_26 : decode cX3_add 26 = .ok (.iload_n 1, 1) := by decide +kernel
theorem dX3_add_27 : decode cX3_add 27 = .ok (.iastore, 1) := by decide +kernel
theorem dX3_add_28 : decode cX3_add 28 = .ok (.aload_n 0, 1) := by decide +kernel
theorem dX3_add_29 : decode cX3_add 29 = .ok (.getfield 15, 3) := by decide +kernel
theorem dX3_add_32 : decode cX3_add 32 = .ok (.aload_n 0, 1) := by decide +kernel
theorem dX3_add_33 : decode cX3_add 33 = .ok (.getfield 21, 3) := by decide +kernel
theorem dX3_add_36 : decode cX3_add 36 = .ok (.iload_n 2, 1) := by decide +kernel
theorem dX3_add_37 : decode cX3_add 37 = .ok (.iastore, 1) := by decide +kernel
theorem dX3_add_38 : decode cX3_add 38 = .ok (.aload_n 0, 1) := by decide +kernel
theorem dX3_add_39 : decode cX3_add 39 = .ok (.getfield 18, 3) := by decide +kernel
theorem dX3_add_42 : decode cX3_add 42 = .ok (.aload_n 0, 1) := by decide +kernel
theorem dX3_add_43 : decode cX3_add 43 = .ok (.getfield 21, 3) := by decide +kernel
theorem dX3_add_46 : decode cX3_add 46 = .ok (.iload_n 3, 1) := by decide +kernel
theorem dX3_add_47 : decode cX3_add 47 = .ok (.iastore, 1) := by decide +kernel
theorem dX3_add_48 : decode cX3_add 48 = .ok (.aload_n 0, 1) := by decide +kernel
theorem dX3_add_49 : decode cX3_add 49 = .ok (.dup, 1) := by decide +kernel
theorem dX3_add_50 : decode cX3_add 50 = .ok (.getfield 21, 3) := by decide +kernel
theorem dX3_add_53 : decode cX3_add 53 = .ok (.iconst 1, 1) := by decide +kernel
theorem dX3_add_54 : decode cX3_add 54 = .ok (.iadd, 1) := by decide +kernel
theorem dX3_add_55 : decode cX3_add 55 = .ok (.putfield 21, 3) := by decide +kernel
theorem dX3_add_58 : decode cX3_add 58 = .ok (.iconst 1, 1) := by decide +kernel
theorem dX3_add_59 : decode cX3_add 59 = .ok (.ireturn, 1) := by decide +kernel
set_option maxRecDepth 20000 in
theorem ggX3_fit_X2_isThere : GoodIn wsX3_fit wsX2_isThere := goodIn_r _ [9, 10, 20, 21, 22, 23, 24, 25] (by decide +kernel) (by decide +kernel)
set_option maxRecDepth 20000 in
theorem gX3_fit_X2_isThere : GoodIn wsX3_fit (wsV RX3 25 RX2 yX2_isThere wsX2_isThere) := goodIn_app (goodIn_of _ (by decide +kernel)) ggX3_fit_X2_isThere
set_option maxRecDepth 20000 in
theorem ggX3_fit_X2_isYes : GoodIn wsX3_fit wsX2_isYes := goodIn_r _ [14, 15, 20, 21, 22, 23, 24, 25] (by decide +kernel) (by decide +kernel)
set_option maxRecDepth 20000 in
theorem gX3_fit_X2_isYes : GoodIn wsX3_fit (wsV RX3 31 RX2 yX2_isYes wsX2_isYes) := goodIn_app (goodIn_of _ (by decide +kernel)) ggX3_fit_X2_isYes
theorem dX3_fit_0 : decode cX3_fit 0 = .ok (.iconst 0, 1) := by decide +kernel
theorem dX3_fit_1 : decode cX3_fit 1 = .ok (.istore_n 3, 1) := by decide +kernel
theorem dX3_fit_2 : decode cX3_fit 2 = .ok (.iload_n 3, 1) := by decide +kernel
theorem dX3_fit_3 : decode cX3_fit 3 = .ok (.aload_n 0, 1) := by decide +kernel
theorem dX3_fit_4 : decode cX3_fit 4 = .ok (.getfield 21, 3) := by decide +kernel
theorem dX3_fit_7 : decode cX3_fit 7 = .ok (.if_icmp .ge 80, 3) := by decide +kernel
theorem dX3_fit_10 : decode cX3_fit 10 = .ok (.iload_n 3, 1) := by decide +kernel
theorem dX3_fit_11 : decode cX3_fit 11 = .ok (.bipush 6, 2) := by decide +kernel
theorem dX3_fit_13 : decode cX3_fit 13 = .ok (.if_icmp .ge 74, 3) := by decide +kernel
theorem dX3_fit_16 : decode cX3_fit 16 = .ok (.aload_n 0, 1) := by decide +kernel
theorem dX3_fit_17 : decode cX3_fit 17 = .ok (.getfield 15, 3) := by decide +kernel
theorem dX3_fit_20 : decode cX3_fit 20 = .ok (.iload_n 3, 1) := by decide +kernel
theorem dX3_fit_21 : decode cX3_fit 21 = .ok (.iaload, 1) := by decide +kernel
theorem dX3_fit_22 : decode cX3_fit 22 = .ok (.iload_n 2, 1) := by decide +kernel
theorem dX3_fit_23 : decode cX3_fit 23 = .ok (.if_icmp .ne 20, 3) := by decide +kernel
theorem dX3_fit_26 : decode cX3_fit 26 = .ok (.aload_n 1, 1) := by decide +kernel
theorem dX3_fit_27 : decode cX3_fit 27 = .ok (.aload_n 0, 1) := by decide +kernel
theorem dX3_fit_28 : decode cX3_fit 28 = .ok (.getfield 9, 3) := by decide +kernel
theorem dX3_fit_31 : decode cX3_fit 31 = .ok (.iload_n 3, 1) := by decide +kernel
theorem dX3_fit_32 : decode cX3_fit 32 = .ok (.iaload, 1) := by decide +kernel
theorem dX3_fit_33 : decode cX3_fit 33 = .ok (.invokevirtual 25, 3) := by decide +kernel
theorem dX3_fit_36 : decode cX3_fit 36 = .ok (.ifCond .eq 7, 3) := by decide +kernel
theorem dX3_fit_39 : decode cX3_fit 39 = .ok (.iconst 1, 1) := by decide +kernel
theorem dX3_fit_40 : decode cX3_fit 40 = .ok (.goto 4, 3) := by decide +kernel
theorem dX3_fit_43 : decode cX3_fit 43 = .ok (.iconst 0, 1) := by decide +kernel
theorem dX3_fit_44 : decode cX3_fit 44 = .ok (.istore 4, 2) := by decide +kernel
theorem dX3_fit_46 : decode cX3_fit 46 = .ok (.iload 4, 2) := by decide +kernel
theorem dX3_fit_48 : decode cX3_fit 48 = .ok (.ifCond .eq 33, 3) := by decide +kernel
theorem dX3_fit_51 : decode cX3_fit 51 = .ok (.aload_n 1, 1) := by decide +kernel
theorem dX3_fit_52 : decode cX3_fit 52 = .ok (.aload_n 0, 1) := by decide +kernel
theorem dX3_fit_53 : decode cX3_fit 53 = .ok (.getfield 9, 3) := by decide +kernel
theorem dX3_fit_56 : decode cX3_fit 56 = .ok (.iload_n 3, 1) := by decide +kernel
theorem dX3_fit_57 : decode cX3_fit 57 = .ok (.iaload, 1) := by decide +kernel
theorem dX3_fit_58 : decode cX3_fit 58 = .ok (.invokevirtual 31, 3) := by decide +kernel
theorem dX3_fit_61 : decode cX3_fit 61 = .ok (.aload_n 0, 1) := by decide +kernel
theorem dX3_fit_62 : decode cX3_fit 62 = .ok (.getfield 18, 3) := by decide +kernel
theorem dX3_fit_65 : decode cX3_fit 65 = .ok (.iload_n 3, 1) := by decide +kernel
theorem dX3_fit_66 : decode cX3_fit 66 = .ok (.iaload, 1) := by decide +kernel
theorem dX3_fit_67 : decode cX3_fit 67 = .ok (.iconst 1, 1) := by decide +kernel
theorem dX3_fit_68 : decode cX3_fit 68 = .ok (.if_icmp .ne 7, 3) := by decide +kernel
theorem dX3_fit_71 : decode cX3_fit 71 = .ok (.iconst 1, 1) := by decide +kernel
theorem dX3_fit_72 : decode cX3_fit 72 = .ok (.goto 4, 3) := by decide +kernel
theorem dX3_fit_75 : decode cX3_fit 75 = .ok (.iconst 0, 1) := by decide +kernel
theorem dX3_fit_76 : decode cX3_fit 76 = .ok (.if_icmp .eq 5, 3) := by decide +kernel
theorem dX3_fit_79 : decode cX3_fit 79 = .ok (.iconst 0, 1) := by decide +kernel
theorem dX3_fit_80 : decode cX3_fit 80 = .ok (.ireturn, 1) := by decide +kernel
theorem dX3_fit_81 : decode cX3_fit 81 = .ok (.iinc 3 1, 3) := by decide +kernel
theorem dX3_fit_84 : decode cX3_fit 84 = .ok (.goto (-82), 3) := by decide +kernel
theorem dX3_fit_87 : decode cX3_fit 87 = .ok (.iconst 1, 1) := by decide +kernel
theorem dX3_fit_88 : decode cX3_fit 88 = .ok (.ireturn, 1) := by decide +kernel
theorem dX4_init_0 : decode cX4_init 0 = .ok (.aload_n 0, 1) := by decide +kernel
theorem dX4_init_1 : decode cX4_init 1 = .ok (.invokespecial 3, 3) := by decide +kernel
theorem dX4_init_4 : decode cX4_init 4 = .ok (.aload_n 0, 1) := by decide +kernel
theorem dX4_init_5 : decode cX4_init 5 = .ok (.bipush 56, 2) := by decide +kernel
theorem dX4_init_7 : decode cX4_init 7 = .ok (.newarray .int, 2) := by decide +kernel
theorem dX4_init_9 : decode cX4_init 9 = .ok (.putfield 9, 3) := by decide +kernel
theorem dX4_init_12 : decode cX4_init 12 = .ok (.return_, 1) := by decide +kernel
theorem dX4_add_0 : decode cX4_add 0 = .ok (.aload_n 0, 1) := by decide +kernel
theorem dX4_add_1 : decode cX4_add 1 = .ok (.getfield 15, 3) := by decide +kernel
theorem dX4_add_4 : decode cX4_add 4 = .ok (.ifCond .lt 12, 3) := by decide +kernel
theorem dX4_add_7 : decode cX4_add 7 = .ok (.aload_n 0, 1) := by decide +kernel
theorem dX4_add_8 : decode cX4_add 8 = .ok (.getfield 15, 3) := by decide +kernel
theorem dX4_add_11 : decode cX4_add 11 = .ok (.bipush 56, 2) := by decide +kernel
theorem dX4_add_13 : decode cX4_add 13 = .ok (.if_icmp .lt 5, 3) := by decide +kernel
theorem dX4_add_16 : decode cX4_add 16 = .ok (.iconst 0, 1) := by decide +kernel
theorem dX4_add_17 : decode cX4_add 17 = .ok (.ireturn, 1) := by decide +kernel
theorem dX4_add_18 : decode cX4_add 18 = .ok (.aload_n 0, 1) := by decide +kernel
theorem dX4_add_19 : decode cX4_add 19 = .ok (.getfield 9, 3) := by decide +kernel
theorem dX4_add_22 : decode cX4_add 22 = .ok (.aload_n 0, 1) := by decide +kernel
theorem dX4_add_23 : decode cX4_add 23 = .ok (.getfield 15, 3) := by decide +kernel
theorem dX4_add_26 : decode cX4_add 26 = .ok (.iload_n 1, 1) := by decide +kernel
theorem dX4_add_27 : decode cX4_add 27 = .ok (.iastore, 1) := by decide +kernel
theorem dX4_add_28 : decode cX4_add 28 = .ok (.aload_n 0, 1) := by decide +kernel
theorem dX4_add_29 : decode cX4_add 29 = .ok (.dup, 1) := by decide +kernel
theorem dX4_add_30 : decode cX4_add 30 = .ok (.getfield 15, 3) := by decide +kernel
theorem dX4_add_33 : decode cX4_add 33 = .ok (.iconst 1, 1) := by decide +kernel
theorem dX4_add_34 : decode cX4_add 34 = .ok (.iadd, 1) := by decide +kernel
theorem dX4_add_35 : decode cX4_add 35 = .ok (.putfield 15, 3) := by decide +kernel
theorem dX4_add_38 : decode cX4_add 38 = .ok (.iconst 1, 1) := by decide +kernel
theorem dX4_add_39 : decode cX4_add 39 = .ok (.ireturn, 1) := by decide +kernel
theorem dX4_letterAt_0 : decode cX4_letterAt 0 = .ok (.iload_n 1, 1) := by decide +kernel
theorem dX4_letterAt_1 : decode cX4_letterAt 1 = .ok (.ifCond .lt 17, 3) := by decide +kernel
theorem dX4_letterAt_4 : decode cX4_letterAt 4 = .ok (.iload_n 1, 1) := by decide +kernel
theorem dX4_letterAt_5 : decode cX4_letterAt 5 = .ok (.aload_n 0, 1) := by decide +kernel
theorem dX4_letterAt_6 : decode cX4_letterAt 6 = .ok (.getfield 15, 3) := by decide +kernel
theorem dX4_letterAt_9 : decode cX4_letterAt 9 = .ok (.if_icmp .ge 9, 3) := by decide +kernel
theorem dX4_letterAt_12 : decode cX4_letterAt 12 = .ok (.iload_n 1, 1) := by decide +kernel
theorem dX4_letterAt_13 : decode cX4_letterAt 13 = .ok (.bipush 56, 2) := by decide +kernel
theorem dX4_letterAt_15 : decode cX4_letterAt 15 = .ok (.if_icmp .lt 7, 3) := by decide +kernel
theorem dX4_letterAt_18 : decode cX4_letterAt 18 = .ok (.iconst (-1), 1) := by decide +kernel
theorem dX4_letterAt_19 : decode cX4_letterAt 19 = .ok (.goto 9, 3) := by decide +kernel
theorem dX4_letterAt_22 : decode cX4_letterAt 22 = .ok (.aload_n 0, 1) := by decide +kernel
theorem dX4_letterAt_23 : decode cX4_letterAt 23 = .ok (.getfield 9, 3) := by decide +kernel
theorem dX4_letterAt_26 : decode cX4_letterAt 26 = .ok (.iload_n 1, 1) := by decide +kernel
theorem dX4_letterAt_27 : decode cX4_letterAt 27 = .ok (.iaload, 1) := by decide +kernel
theorem dX4_letterAt_28 : decode cX4_letterAt 28 = .ok (.ireturn, 1) := by decide +kernel
set_option maxRecDepth 20000 in
theorem ggX4_isFigure_X4_letterAt : GoodIn wsX4_isFigure wsX4_letterAt := goodIn_r _ [5, 6, 7, 8, 9] (by decide +kernel) (by decide +kernel)
set_option maxRecDepth 20000 in
theorem gX4_isFigure_X4_letterAt : GoodIn wsX4_isFigure (wsV RX4 19 RX4 yX4_letterAt wsX4_letterAt) := goodIn_app (goodIn_of _ (by decide +kernel)) ggX4_isFigure_X4_letterAt
theorem dX4_isFigure_0 : decode cX4_isFigure 0 = .ok (.aload_n 0, 1) := by decide +kernel
theorem dX4_isFigure_1 : decode cX4_isFigure 1 = .ok (.iload_n 1, 1) := by decide +kernel
theorem dX4_isFigure_2 : decode cX4_isFigure 2 = .ok (.invokevirtual 19, 3) := by decide +kernel
theorem dX4_isFigure_5 : decode cX4_isFigure 5 = .ok (.istore 4, 2) := by decide +kernel
theorem dX4_isFigure_7 : decode cX4_isFigure 7 = .ok (.iload 4, 2) := by decide +kernel
theorem dX4_isFigure_9 : decode cX4_isFigure 9 = .ok (.bipush 48, 2) := by decide +kernel
theorem dX4_isFigure_11 : decode cX4_isFigure 11 = .ok (.iload_n 2, 1) := by decide +kernel
theorem dX4_isFigure_12 : decode cX4_isFigure 12 = .ok (.iadd, 1) := by decide +kernel
theorem dX4_isFigure_13 : decode cX4_isFigure 13 = .ok (.if_icmp .lt 16, 3) := by decide +kernel
theorem dX4_isFigure_16 : decode cX4_isFigure 16 = .ok (.iload 4, 2) := by decide +kernel
theorem dX4_isFigure_18 : decode cX4_isFigure 18 = .ok (.bipush 48, 2) := by decide +kernel
theorem dX4_isFigure_20 : decode cX4_isFigure 20 = .ok (.iload_n 3, 1) := by decide +kernel
theorem dX4_isFigure_21 : decode cX4_isFigure 21 = .ok (.iadd, 1) := by decide +kernel
theorem dX4_isFigure_22 : decode cX4_isFigure 22 = .ok (.if_icmp .gt 7, 3) := by decide +kernel
theorem dX4_isFigure_25 : decode cX4_isFigure 25 = .ok (.iconst 1, 1) := by decide +kernel
theorem dX4_isFigure_26 : decode cX4_isFigure 26 = .ok (.goto 4, 3) := by decide +kernel
theorem dX4_isFigure_29 : decode cX4_isFigure 29 = .ok (.iconst 0, 1) := by decide +kernel
theorem dX4_isFigure_30 : decode cX4_isFigure 30 = .ok (.ireturn, 1) := by decide +kernel
set_option maxRecDepth 20000 in
theorem ggX4_figureAt_X4_letterAt : GoodIn wsX4_figureAt wsX4_letterAt := goodIn_r _ [5, 6, 7, 8, 9] (by decide +kernel) (by decide +kernel)
set_option maxRecDepth 20000 in
theorem gX4_figureAt_X4_letterAt : GoodIn wsX4_figureAt (wsV RX4 19 RX4 yX4_letterAt wsX4_letterAt) := goodIn_app (goodIn_of _ (by decide +kernel)) ggX4_figureAt_X4_letterAt
theorem dX4_figureAt_0 : decode cX4_figureAt 0 = .ok (.aload_n 0, 1) := by decide +kernel
theorem dX4_figureAt_1 : decode cX4_figureAt 1 = .ok (.iload_n 1, 1) := by decide +kernel
theorem dX4_figureAt_2 : decode cX4_figureAt 2 = .ok (.invokevirtual 19, 3) := by decide +kernel
theorem dX4_figureAt_5 : decode cX4_figureAt 5 = .ok (.bipush 48, 2) := by decide +kernel
theorem dX4_figureAt_7 : decode cX4_figureAt 7 = .ok (.isub, 1) := by decide +kernel
theorem dX4_figureAt_8 : decode cX4_figureAt 8 = .ok (.ireturn, 1) := by decide +kernel
end
section
set_option maxRecDepth 20000 in
theorem ggX5_init_X4_init : GoodIn wsX5_init wsX4_init := goodIn_r _ [30, 31, 2, 3, 32, 33, 61, 62] (by decide +kernel) (by decide +kernel)
set_option maxRecDepth 20000 in
theorem gX5_init_X4_init_n11 : GoodIn wsX5_init (wsX4_init) := ggX5_init_X4_init
set_option maxRecDepth 20000 in
theorem ggX5_init_X1_init : GoodIn wsX5_init wsX1_init := goodIn_r _ [35, 36, 2, 3, 32, 37, 38, 39, 40, 73, 74, 75, 76, 77, 78] (by decide +kernel) (by decide +kernel)
set_option maxRecDepth 20000 in
theorem gX5_init_X1_init_n18 : GoodIn wsX5_init (wsX1_init) := ggX5_init_X1_init
set_option maxRecDepth 20000 in
theorem ggX5_init_X2_init : GoodIn wsX5_init wsX2_init := goodIn_r _ [43, 44, 2, 3, 32, 45, 46, 47, 79, 80, 81, 82, 83, 84] (by decide +kernel) (by decide +kernel)
set_option maxRecDepth 20000 in
theorem gX5_init_X2_init : GoodIn wsX5_init (wsX2_init) := ggX5_init_X2_init
set_option maxRecDepth 20000 in
theorem ggX5_init_X0_init : GoodIn wsX5_init wsX0_init := goodIn_r _ [50, 51, 2, 3, 52, 53, 14, 15, 54, 42, 43, 44, 32, 45, 46, 47, 85, 86, 79, 80, 81, 82, 83, 84] (by decide +kernel) (by decide +kernel)
set_option maxRecDepth 20000 in
theorem gX5_init_X0_init : GoodIn wsX5_init (wsX0_init) := ggX5_init_X0_init
set_option maxRecDepth 20000 in
theorem ggX5_init_X3_init : GoodIn wsX5_init wsX3_init := goodIn_r _ [56, 57, 2, 3, 32, 58, 59, 60, 87, 88, 89, 90] (by decide +kernel) (by decide +kernel)
set_option maxRecDepth 20000 in
theorem gX5_init_X3_init_n55 : GoodIn wsX5_init (wsX3_init) := ggX5_init_X3_init
theorem dX5_init_0 : decode cX5_init 0 = .ok (.aload_n 0, 1) := by decide +kernel
theorem dX5_init_1 : decode cX5_init 1 = .ok (.invokespecial 3, 3) := by decide +kernel
theorem dX5_init_4 : decode cX5_init 4 = .ok (.aload_n 0, 1) := by decide +kernel
theorem dX5_init_5 : decode cX5_init 5 = .ok (.new 9, 3) := by decide +kernel
theorem dX5_init_8 : decode cX5_init 8 = .ok (.dup, 1) := by decide +kernel
theorem dX5_init_9 : decode cX5_init 9 = .ok (.invokespecial 11, 3) := by decide +kernel
theorem dX5_init_12 : decode cX5_init 12 = .ok (.putfield 12, 3) := by decide +kernel
theorem dX5_init_15 : decode cX5_init 15 = .ok (.aload_n 0, 1) := by decide +kernel
theorem dX5_init_16 : decode cX5_init 16 = .ok (.new 16, 3) := by decide +kernel
theorem dX5_init_19 : decode cX5_init 19 = .ok (.dup, 1) := by decide +kernel
theorem dX5_init_20 : decode cX5_init 20 = .ok (.invokespecial 18, 3) := by decide +kernel
theorem dX5_init_23 : decode cX5_init 23 = .ok (.putfield 19, 3) := by decide +kernel
theorem dX5_init_26 : decode cX5_init 26 = .ok (.aload_n 0, 1) := by decide +kernel
theorem dX5_init_27 : decode cX5_init 27 = .ok (.new 16, 3) := by decide +kernel
theorem dX5_init_30 : decode cX5_init 30 = .ok (.dup, 1) := by decide +kernel
theorem dX5_init_31 : decode cX5_init 31 = .ok (.invokespecial 18, 3) := by decide +kernel
theorem dX5_init_34 : decode cX5_init 34 = .ok (.putfield 23, 3) := by decide +kernel
theorem dX5_init_37 : decode cX5_init 37 = .ok (.aload_n 0, 1) := by decide +kernel
theorem dX5_init_38 : decode cX5_init 38 = .ok (.new 26, 3) := by decide +kernel
theorem dX5_init_41 : decode cX5_init 41 = .ok (.dup, 1) := by decide +kernel
theorem dX5_init_42 : decode cX5_init 42 = .ok (.aload_n 0, 1) := by decide +kernel
theorem dX5_init_43 : decode cX5_init 43 = .ok (.getfield 19, 3) := by decide +kernel
theorem dX5_init_46 : decode cX5_init 46 = .ok (.invokespecial 28, 3) := by decide +kernel
theorem dX5_init_49 : decode cX5_init 49 = .ok (.putfield 31, 3) := by decide +kernel
theorem dX5_init_52 : decode cX5_init 52 = .ok (.aload_n 0, 1) := by decide +kernel
theorem dX5_init_53 : decode cX5_init 53 = .ok (.new 26, 3) := by decide +kernel
theorem dX5_init_56 : decode cX5_init 56 = .ok (.dup, 1) := by decide +kernel
theorem dX5_init_57 : decode cX5_init 57 = .ok (.aload_n 0, 1) := by decide +kernel
theorem dX5_init_58 : decode cX5_init 58 = .ok (.getfield 19, 3) := by decide +kernel
theorem dX5_init_61 : decode cX5_init 61 = .ok (.invokespecial 28, 3) := by decide +kernel
theorem dX5_init_64 : decode cX5_init 64 = .ok (.putfield 35, 3) := by decide +kernel
theorem dX5_init_67 : decode cX5_init 67 = .ok (.aload_n 0, 1) := by decide +kernel
theorem dX5_init_68 : decode cX5_init 68 = .ok (.new 38, 3) := by decide +kernel
theorem dX5_init_71 : decode cX5_init 71 = .ok (.dup, 1) := by decide +kernel
theorem dX5_init_72 : decode cX5_init 72 = .ok (.aload_n 0, 1) := by decide +kernel
theorem dX5_init_73 : decode cX5_init 73 = .ok (.getfield 19, 3) := by decide +kernel
theorem dX5_init_76 : decode cX5_init 76 = .ok (.invokespecial 40, 3) := by decide +kernel
theorem dX5_init_79 : decode cX5_init 79 = .ok (.putfield 41, 3) := by decide +kernel
theorem dX5_init_82 : decode cX5_init 82 = .ok (.aload_n 0, 1) := by decide +kernel
theorem dX5_init_83 : decode cX5_init 83 = .ok (.iconst 2, 1) := by decide +kernel
theorem dX5_init_84 : decode cX5_init 84 = .ok (.anewarray 26, 3) := by decide +kernel
theorem dX5_init_87 : decode cX5_init 87 = .ok (.putfield 45, 3) := by decide +kernel
theorem dX5_init_90 : decode cX5_init 90 = .ok (.aload_n 0, 1) := by decide +kernel
theorem dX5_init_91 : decode cX5_init 91 = .ok (.iconst 2, 1) := by decide +kernel
theorem dX5_init_92 : decode cX5_init 92 = .ok (.newarray .boolean, 2) := by decide +kernel
theorem dX5_init_94 : decode cX5_init 94 = .ok (.putfield 49, 3) := by decide +kernel
theorem dX5_init_97 : decode cX5_init 97 = .ok (.aload_n 0, 1) := by decide +kernel
theorem dX5_init_98 : decode cX5_init 98 = .ok (.new 53, 3) := by decide +kernel
theorem dX5_init_101 : decode cX5_init 101 = .ok (.dup, 1) := by decide +kernel
theorem dX5_init_102 : decode cX5_init 102 = .ok (.invokespecial 55, 3) := by decide +kernel
theorem dX5_init_105 : decode cX5_init 105 = .ok (.putfield 56, 3) := by decide +kernel
theorem dX5_init_108 : decode cX5_init 108 = .ok (.iconst 0, 1) := by decide +kernel
theorem dX5_init_109 : decode cX5_init 109 = .ok (.istore_n 1, 1) := by decide +kernel
theorem dX5_init_110 : decode cX5_init 110 = .ok (.iload_n 1, 1) := by decide +kernel
theorem dX5_init_111 : decode cX5_init 111 = .ok (.iconst 2, 1) := by decide +kernel
theorem dX5_init_112 : decode cX5_init 112 = .ok (.if_icmp .ge 26, 3) := by decide +kernel
theorem dX5_init_115 : decode cX5_init 115 = .ok (.aload_n 0, 1) := by decide +kernel
theorem dX5_init_116 : decode cX5_init 116 = .ok (.getfield 45, 3) := by decide +kernel
theorem dX5_init_119 : decode cX5_init 119 = .ok (.iload_n 1, 1) := by decide +kernel
theorem dX5_init_120 : decode cX5_init 120 = .ok (.new 26, 3) := by decide +kernel
theorem dX5_init_123 : decode cX5_init 123 = .ok (.dup, 1) := by decide +kernel
theorem dX5_init_124 : decode cX5_init 124 = .ok (.aload_n 0, 1) := by decide +kernel
theorem dX5_init_125 : decode cX5_init 125 = .ok (.getfield 19, 3) := by decide +kernel
theorem dX5_init_128 : decode cX5_init 128 = .ok (.invokespecial 28, 3) := by decide +kernel
theorem dX5_init_131 : decode cX5_init 131 = .ok (.aastore, 1) := by decide +kernel
theorem dX5_init_132 : decode cX5_init 132 = .ok (.iinc 1 1, 3) := by decide +kernel
theorem dX5_init_135 : decode cX5_init 135 = .ok (.goto (-25), 3) := by decide +kernel
theorem dX5_init_138 : decode cX5_init 138 = .ok (.return_, 1) := by decide +kernel
set_option maxRecDepth 20000 in
theorem ggX5_write_X4_add : GoodIn wsX5_write wsX4_add := goodIn_r _ [7, 8, 9, 20, 21] (by decide +kernel) (by decide +kernel)
set_option maxRecDepth 20000 in
theorem gX5_write_X4_add : GoodIn wsX5_write (wsV RX5 60 RX4 yX4_add wsX4_add) := goodIn_app (goodIn_of _ (by decide +kernel)) ggX5_write_X4_add
theorem dX5_write_0 : decode cX5_write 0 = .ok (.iload_n 1, 1) := by decide +kernel
theorem dX5_write_1 : decode cX5_write 1 = .ok (.ifCond .lt 10, 3) := by decide +kernel
theorem dX5_write_4 : decode cX5_write 4 = .ok (.iload_n 1, 1) := by decide +kernel
theorem dX5_write_5 : decode cX5_write 5 = .ok (.sipush 255, 3) := by decide +kernel
theorem dX5_write_8 : decode cX5_write 8 = .ok (.if_icmp .le 6, 3) := by decide +kernel
theorem dX5_write_11 : decode cX5_write 11 = .ok (.bipush (-2), 2) := by decide +kernel
theorem dX5_write_13 : decode cX5_write 13 = .ok (.ireturn, 1) := by decide +kernel
theorem dX5_write_14 : decode cX5_write 14 = .ok (.aload_n 0, 1) := by decide +kernel
theorem dX5_write_15 : decode cX5_write 15 = .ok (.getfield 12, 3) := by decide +kernel
theorem dX5_write_18 : decode cX5_write 18 = .ok (.iload_n 1, 1) := by decide +kernel
theorem dX5_write_19 : decode cX5_write 19 = .ok (.invokevirtual 60, 3) := by decide +kernel
theorem dX5_write_22 : decode cX5_write 22 = .ok (.ifCond .eq 13, 3) := by decide +kernel
theorem dX5_write_25 : decode cX5_write 25 = .ok (.aload_n 0, 1) := by decide +kernel
theorem dX5_write_26 : decode cX5_write 26 = .ok (.getfield 12, 3) := by decide +kernel
theorem dX5_write_29 : decode cX5_write 29 = .ok (.getfield 64, 3) := by decide +kernel
theorem dX5_write_32 : decode cX5_write 32 = .ok (.goto 5, 3) := by decide +kernel
theorem dX5_write_35 : decode cX5_write 35 = .ok (.bipush (-4), 2) := by decide +kernel
theorem dX5_write_37 : decode cX5_write 37 = .ok (.ireturn, 1) := by decide +kernel
theorem dX5_wipe_0 : decode cX5_wipe 0 = .ok (.aload_n 0, 1) := by decide +kernel
theorem dX5_wipe_1 : decode cX5_wipe 1 = .ok (.getfield 12, 3) := by decide +kernel
theorem dX5_wipe_4 : decode cX5_wipe 4 = .ok (.getfield 64, 3) := by decide +kernel
theorem dX5_wipe_7 : decode cX5_wipe 7 = .ok (.istore_n 1, 1) := by decide +kernel
theorem dX5_wipe_8 : decode cX5_wipe 8 = .ok (.aload_n 0, 1) := by decide +kernel
theorem dX5_wipe_9 : decode cX5_wipe 9 = .ok (.getfield 12, 3) := by decide +kernel
theorem dX5_wipe_12 : decode cX5_wipe 12 = .ok (.iconst 0, 1) := by decide +kernel
theorem dX5_wipe_13 : decode cX5_wipe 13 = .ok (.putfield 64, 3) := by decide +kernel
theorem dX5_wipe_16 : decode cX5_wipe 16 = .ok (.iload_n 1, 1) := by decide +kernel
theorem dX5_wipe_17 : decode cX5_wipe 17 = .ok (.ireturn, 1) := by decide +kernel
set_option maxRecDepth 20000 in
theorem ggX5_fault_X1_readFrom : GoodIn wsX5_fault wsX1_readFrom := goodIn_r _ [7, 8, 9, 10, 11, 12, 13, 14, 15, 16, 17, 18, 19, 20, 21, 22, 23, 24, 25, 26, 27, 28, 29, 30, 6, 31, 32, 33, 34, 35, 36, 37, 38, 39, 40, 41, 42, 43, 44, 45, 46, 57, 58, 59, 60, 61, 62, 63, 64] (by decide +kernel) (by decide +kernel)
set_option maxRecDepth 20000 in
theorem gX5_fault_X1_readFrom : GoodIn wsX5_fault (wsV RX5 68 RX1 yX1_readFrom wsX1_readFrom) := goodIn_app (goodIn_of _ (by decide +kernel)) ggX5_fault_X1_readFrom
theorem dX5_fault_0 : decode cX5_fault 0 = .ok (.aload_n 0, 1) := by decide +kernel
theorem dX5_fault_1 : decode cX5_fault 1 = .ok (.getfield 23, 3) := by decide +kernel
theorem dX5_fault_4 : decode cX5_fault 4 = .ok (.aload_n 0, 1) := by decide +kernel
theorem dX5_fault_5 : decode cX5_fault 5 = .ok (.getfield 12, 3) := by decide +kernel
theorem dX5_fault_8 : decode cX5_fault 8 = .ok (.invokevirtual 68, 3) := by decide +kernel
theorem dX5_fault_11 : decode cX5_fault 11 = .ok (.ireturn, 1) := by decide +kernel
set_option maxRecDepth 20000 in
theorem ggX5_jury_X1_readFrom : GoodIn wsX5_jury wsX1_readFrom := goodIn_r _ [12, 13, 14, 15, 16, 17, 18, 19, 20, 21, 22, 23, 24, 25, 26, 27, 28, 29, 30, 31, 32, 33, 34, 35, 11, 36, 37, 38, 39, 40, 41, 42, 43, 44, 45, 46, 47, 48, 49, 50, 51, 82, 83, 84, 85, 86, 87, 88, 89] (by decide +kernel) (by decide +kernel)
set_option maxRecDepth 20000 in
theorem gX5_jury_X1_readFrom : GoodIn wsX5_jury (wsV RX5 68 RX1 yX1_readFrom wsX1_readFrom) := goodIn_app (goodIn_of _ (by decide +kernel)) ggX5_jury_X1_readFrom
set_option maxRecDepth 20000 in
theorem ggX5_jury_X2_beginAnew : GoodIn wsX5_jury wsX2_beginAnew := goodIn_r _ [56, 57, 58, 59, 60, 61, 62, 63, 64, 65, 90, 91, 92, 93, 94, 95, 82, 83, 84, 85, 86, 87] (by decide +kernel) (by decide +kernel)
set_option maxRecDepth 20000 in
theorem gX5_jury_X2_beginAnew : GoodIn wsX5_jury (wsV RX5 72 RX2 yX2_beginAnew wsX2_beginAnew) := goodIn_app (goodIn_of _ (by decide +kernel)) ggX5_jury_X2_beginAnew
set_option maxRecDepth 20000 in
theorem ggX5_jury_X0_forgetAll : GoodIn wsX5_jury wsX0_forgetAll := goodIn_r _ [70, 71, 96, 97] (by decide +kernel) (by decide +kernel)
set_option maxRecDepth 20000 in
theorem gX5_jury_X0_forgetAll : GoodIn wsX5_jury (wsV RX5 75 RX0 yX0_forgetAll wsX0_forgetAll) := goodIn_app (goodIn_of _ (by decide +kernel)) ggX5_jury_X0_forgetAll
theorem dX5_jury_0 : decode cX5_jury 0 = .ok (.aload_n 0, 1) := by decide +kernel
theorem dX5_jury_1 : decode cX5_jury 1 = .ok (.getfield 23, 3) := by decide +kernel
theorem dX5_jury_4 : decode cX5_jury 4 = .ok (.aload_n 0, 1) := by decide +kernel
theorem dX5_jury_5 : decode cX5_jury 5 = .ok (.getfield 12, 3) := by decide +kernel
theorem dX5_jury_8 : decode cX5_jury 8 = .ok (.invokevirtual 68, 3) := by decide +kernel
theorem dX5_jury_11 : decode cX5_jury 11 = .ok (.bipush (-9), 2) := by decide +kernel
theorem dX5_jury_13 : decode cX5_jury 13 = .ok (.if_icmp .eq 6, 3) := by decide +kernel
theorem dX5_jury_16 : decode cX5_jury 16 = .ok (.bipush (-3), 2) := by decide +kernel
theorem dX5_jury_18 : decode cX5_jury 18 = .ok (.ireturn, 1) := by decide +kernel
theorem dX5_jury_19 : decode cX5_jury 19 = .ok (.aload_n 0, 1) := by decide +kernel
theorem dX5_jury_20 : decode cX5_jury 20 = .ok (.getfield 19, 3) := by decide +kernel
theorem dX5_jury_23 : decode cX5_jury 23 = .ok (.aload_n 0, 1) := by decide +kernel
theorem dX5_jury_24 : decode cX5_jury 24 = .ok (.getfield 12, 3) := by decide +kernel
theorem dX5_jury_27 : decode cX5_jury 27 = .ok (.invokevirtual 68, 3) := by decide +kernel
theorem dX5_jury_30 : decode cX5_jury 30 = .ok (.pop, 1) := by decide +kernel
theorem dX5_jury_31 : decode cX5_jury 31 = .ok (.aload_n 0, 1) := by decide +kernel
theorem dX5_jury_32 : decode cX5_jury 32 = .ok (.getfield 31, 3) := by decide +kernel
theorem dX5_jury_35 : decode cX5_jury 35 = .ok (.invokevirtual 72, 3) := by decide +kernel
theorem dX5_jury_38 : decode cX5_jury 38 = .ok (.aload_n 0, 1) := by decide +kernel
theorem dX5_jury_39 : decode cX5_jury 39 = .ok (.getfield 41, 3) := by decide +kernel
theorem dX5_jury_42 : decode cX5_jury 42 = .ok (.invokevirtual 75, 3) := by decide +kernel
theorem dX5_jury_45 : decode cX5_jury 45 = .ok (.iconst 0, 1) := by decide +kernel
theorem dX5_jury_46 : decode cX5_jury 46 = .ok (.istore_n 1, 1) := by decide +kernel
theorem dX5_jury_47 : decode cX5_jury 47 = .ok (.iload_n 1, 1) := by decide +kernel
theorem dX5_jury_48 : decode cX5_jury 48 = .ok (.iconst 2, 1) := by decide +kernel
theorem dX5_jury_49 : decode cX5_jury 49 = .ok (.if_icmp .ge 16, 3) := by decide +kernel
theorem dX5_jury_52 : decode cX5_jury 52 = .ok (.aload_n 0, 1) := by decide +kernel
theorem dX5_jury_53 : decode cX5_jury 53 = .ok (.getfield 49, 3) := by decide +kernel
theorem dX5_jury_56 : decode cX5_jury 56 = .ok (.iload_n 1, 1) := by decide +kernel
theorem dX5_jury_57 : decode cX5_jury 57 = .ok (.iconst 0, 1) := by decide +kernel
theorem dX5_jury_58 : decode cX5_jury 58 = .ok (.bastore, 1) := by decide +kernel
theorem dX5_jury_59 : decode cX5_jury 59 = .ok (.iinc 1 1, 3) := by decide +kernel
theorem dX5_jury_62 : decode cX5_jury 62 = .ok (.goto (-15), 3) := by decide +kernel
theorem dX5_jury_65 : decode cX5_jury 65 = .ok (.aload_n 0, 1) := by decide +kernel
theorem dX5_jury_66 : decode cX5_jury 66 = .ok (.getfield 19, 3) := by decide +kernel
theorem dX5_jury_69 : decode cX5_jury 69 = .ok (.getfield 78, 3) := by decide +kernel
theorem dX5_jury_72 : decode cX5_jury 72 = .ok (.ireturn, 1) := by decide +kernel
set_option maxRecDepth 20000 in
theorem ggX5_juror_X5_isJuror : GoodIn wsX5_juror wsX5_isJuror := goodIn_r _ [11, 3, 12, 24, 25, 26, 27, 28, 29, 30, 31, 32, 33, 40, 41, 42, 43, 44, 45] (by decide +kernel) (by decide +kernel)
set_option maxRecDepth 20000 in
theorem gX5_juror_X5_isJuror : GoodIn wsX5_juror (wsV RX5 81 RX5 yX5_isJuror wsX5_isJuror) := goodIn_app (goodIn_of _ (by decide +kernel)) ggX5_juror_X5_isJuror
set_option maxRecDepth 20000 in
theorem ggX5_juror_X2_isYes : GoodIn wsX5_juror wsX2_isYes := goodIn_r _ [17, 18, 34, 35, 36, 37, 38, 39] (by decide +kernel) (by decide +kernel)
set_option maxRecDepth 20000 in
theorem gX5_juror_X2_isYes : GoodIn wsX5_juror (wsV RX5 84 RX2 yX2_isYes wsX2_isYes) := goodIn_app (goodIn_of _ (by decide +kernel)) ggX5_juror_X2_isYes
set_option maxRecDepth 20000 in
theorem ggX5_juror_X2_isThere : GoodIn wsX5_juror wsX2_isThere := goodIn_r _ [22, 23, 34, 35, 36, 37, 38, 39] (by decide +kernel) (by decide +kernel)
set_option maxRecDepth 20000 in
theorem gX5_juror_X2_isThere : GoodIn wsX5_juror (wsV RX5 100 RX2 yX2_isThere wsX2_isThere) := goodIn_app (goodIn_of _ (by decide +kernel)) ggX5_juror_X2_isThere
theorem dX5_juror_0 : decode cX5_juror 0 = .ok (.aload_n 0, 1) := by decide +kernel
theorem dX5_juror_1 : decode cX5_juror 1 = .ok (.iload_n 1, 1) := by decide +kernel
theorem dX5_juror_2 : decode cX5_juror 2 = .ok (.invokevirtual 81, 3) := by decide +kernel
theorem dX5_juror_5 : decode cX5_juror 5 = .ok (.ifCond .ne 5, 3) := by decide +kernel
theorem dX5_juror_8 : decode cX5_juror 8 = .ok (.iconst (-1), 1) := by decide +kernel
theorem dX5_juror_9 : decode cX5_juror 9 = .ok (.ireturn, 1) := by decide +kernel
theorem dX5_juror_10 : decode cX5_juror 10 = .ok (.iload_n 2, 1) := by decide +kernel
theorem dX5_juror_11 : decode cX5_juror 11 = .ok (.tableswitch 111 0 5 #[37, 54, 64, 74, 84, 94], 37) := by decide +kernel
theorem dX5_juror_48 : decode cX5_juror 48 = .ok (.aload_n 0, 1) := by decide +kernel
theorem dX5_juror_49 : decode cX5_juror 49 = .ok (.getfield 31, 3) := by decide +kernel
theorem dX5_juror_52 : decode cX5_juror 52 = .ok (.iload_n 1, 1) := by decide +kernel
theorem dX5_juror_53 : decode cX5_juror 53 = .ok (.invokevirtual 84, 3) := by decide +kernel
theorem dX5_juror_56 : decode cX5_juror 56 = .ok (.ifCond .eq 7, 3) := by decide +kernel
theorem dX5_juror_59 : decode cX5_juror 59 = .ok (.iconst 1, 1) := by decide +kernel
theorem dX5_juror_60 : decode cX5_juror 60 = .ok (.goto 4, 3) := by decide +kernel
theorem dX5_juror_63 : decode cX5_juror 63 = .ok (.iconst 0, 1) := by decide +kernel
theorem dX5_juror_64 : decode cX5_juror 64 = .ok (.ireturn, 1) := by decide +kernel
theorem dX5_juror_65 : decode cX5_juror 65 = .ok (.aload_n 0, 1) := by decide +kernel
theorem dX5_juror_66 : decode cX5_juror 66 = .ok (.getfield 31, 3) := by decide +kernel
theorem dX5_juror_69 : decode cX5_juror 69 = .ok (.getfield 87, 3) := by decide +kernel
theorem dX5_juror_72 : decode cX5_juror 72 = .ok (.iload_n 1, 1) := by decide +kernel
theorem dX5_juror_73 : decode cX5_juror 73 = .ok (.iaload, 1) := by decide +kernel
theorem dX5_juror_74 : decode cX5_juror 74 = .ok (.ireturn, 1) := by decide +kernel
theorem dX5_juror_75 : decode cX5_juror 75 = .ok (.aload_n 0, 1) := by decide +kernel
theorem dX5_juror_76 : decode cX5_juror 76 = .ok (.getfield 19, 3) := by decide +kernel
theorem dX5_juror_79 : decode cX5_juror 79 = .ok (.getfield 91, 3) := by decide +kernel
theorem dX5_juror_82 : decode cX5_juror 82 = .ok (.iload_n 1, 1) := by decide +kernel
theorem dX5_juror_83 : decode cX5_juror 83 = .ok (.iaload, 1) := by decide +kernel
theorem dX5_juror_84 : decode cX5_juror 84 = .ok (.ireturn, 1) := by decide +kernel
theorem dX5_juror_85 : decode cX5_juror 85 = .ok (.aload_n 0, 1) := by decide +kernel
theorem dX5_juror_86 : decode cX5_juror 86 = .ok (.getfield 31, 3) := by decide +kernel
theorem dX5_juror_89 : decode cX5_juror 89 = .ok (.getfield 94, 3) := by decide +kernel
theorem dX5_juror_92 : decode cX5_juror 92 = .ok (.iload_n 1, 1) := by decide +kernel
theorem dX5_juror_93 : decode cX5_juror 93 = .ok (.iaload, 1) := by decide +kernel
theorem dX5_juror_94 : decode cX5_juror 94 = .ok (.ireturn, 1) := by decide +kernel
theorem dX5_juror_95 : decode cX5_juror 95 = .ok (.aload_n 0, 1) := by decide +kernel
theorem dX5_juror_96 : decode cX5_juror 96 = .ok (.getfield 19, 3) := by decide +kernel
theorem dX5_juror_99 : decode cX5_juror 99 = .ok (.getfield 97, 3) := by decide +kernel
theorem dX5_juror_102 : decode cX5_juror 102 = .ok (.iload_n 1, 1) := by decide +kernel
theorem dX5_juror_103 : decode cX5_juror 103 = .ok (.iaload, 1) := by decide +kernel
theorem dX5_juror_104 : decode cX5_juror 104 = .ok (.ireturn, 1) := by decide +kernel
theorem dX5_juror_105 : decode cX5_juror 105 = .ok (.aload_n 0, 1) := by decide +kernel
theorem dX5_juror_106 : decode cX5_juror 106 = .ok (.getfield 31, 3) := by decide +kernel
theorem dX5_juror_109 : decode cX5_juror 109 = .ok (.iload_n 1, 1) := by decide +kernel
theorem dX5_juror_110 : decode cX5_juror 110 = .ok (.invokevirtual 100, 3) := by decide +kernel
theorem dX5_juror_113 : decode cX5_juror 113 = .ok (.ifCond .eq 7, 3) := by decide +kernel
theorem dX5_juror_116 : decode cX5_juror 116 = .ok (.iconst 1, 1) := by decide +kernel
theorem dX5_juror_117 : decode cX5_juror 117 = .ok (.goto 4, 3) := by decide +kernel
theorem dX5_juror_120 : decode cX5_juror 120 = .ok (.iconst 0, 1) := by decide +kernel
theorem dX5_juror_121 : decode cX5_juror 121 = .ok (.ireturn, 1) := by decide +kernel
theorem dX5_juror_122 : decode cX5_juror 122 = .ok (.bipush (-2), 2) := by decide +kernel
theorem dX5_juror_124 : decode cX5_juror 124 = .ok (.ireturn, 1) := by decide +kernel
set_option maxRecDepth 20000 in
theorem ggX5_hour_X0_remember : GoodIn wsX5_hour wsX0_remember := goodIn_r _ [7, 8, 9, 10, 11, 12, 6, 13, 14, 15, 16, 17, 18, 19, 20, 21, 22, 23, 82, 83, 84, 85, 86, 87, 88, 89] (by decide +kernel) (by decide +kernel)
set_option maxRecDepth 20000 in
theorem gX5_hour_X0_remember : GoodIn wsX5_hour (wsV RX5 103 RX0 yX0_remember wsX0_remember) := goodIn_app (goodIn_of _ (by decide +kernel)) ggX5_hour_X0_remember
set_option maxRecDepth 20000 in
theorem ggX5_hour_X2_passHour : GoodIn wsX5_hour wsX2_passHour := goodIn_r _ [27, 21, 19, 28, 29, 30, 17, 31, 20, 32, 33, 34, 35, 36, 37, 38, 39, 40, 41, 42, 43, 44, 45, 46, 47, 48, 23, 49, 50, 51, 52, 53, 54, 55, 56, 57, 58, 59, 60, 61, 62, 63, 64, 65, 66, 22, 67, 68, 69, 70, 84, 85, 86, 87, 88, 89, 90, 91, 92, 93, 94, 95] (by decide +kernel) (by decide +kernel)
set_option maxRecDepth 20000 in
theorem gX5_hour_X2_passHour : GoodIn wsX5_hour (wsV RX5 107 RX2 yX2_passHour wsX2_passHour) := goodIn_app (goodIn_of _ (by decide +kernel)) ggX5_hour_X2_passHour
set_option maxRecDepth 20000 in
theorem ggX5_hour_J6_bitCount_0f7a4 : GoodIn wsX5_hour wsJ6_bitCount_0f7a4 := goodIn_r _ [35, 36, 37, 38] (by decide +kernel) (by decide +kernel)
set_option maxRecDepth 20000 in
theorem gX5_hour_J6_bitCount_0f7a4 : GoodIn wsX5_hour (va_wsS RX5 111 yJ6_bitCount_0f7a4 wsJ6_bitCount_0f7a4) := goodIn_app (goodIn_of _ (by decide +kernel)) ggX5_hour_J6_bitCount_0f7a4
theorem dX5_hour_0 : decode cX5_hour 0 = .ok (.aload_n 0, 1) := by decide +kernel
theorem dX5_hour_1 : decode cX5_hour 1 = .ok (.getfield 41, 3) := by decide +kernel
theorem dX5_hour_4 : decode cX5_hour 4 = .ok (.aload_n 0, 1) := by decide +kernel
theorem dX5_hour_5 : decode cX5_hour 5 = .ok (.getfield 31, 3) := by decide +kernel
theorem dX5_hour_8 : decode cX5_hour 8 = .ok (.invokevirtual 103, 3) := by decide +kernel
theorem dX5_hour_11 : decode cX5_hour 11 = .ok (.aload_n 0, 1) := by decide +kernel
theorem dX5_hour_12 : decode cX5_hour 12 = .ok (.getfield 31, 3) := by decide +kernel
theorem dX5_hour_15 : decode cX5_hour 15 = .ok (.invokevirtual 107, 3) := by decide +kernel
theorem dX5_hour_18 : decode cX5_hour 18 = .ok (.invokestatic 111, 3) := by decide +kernel
theorem dX5_hour_21 : decode cX5_hour 21 = .ok (.ireturn, 1) := by decide +kernel
set_option maxRecDepth 20000 in
theorem ggX5_argue_X5_doAct : GoodIn wsX5_argue wsX5_doAct := goodIn_r _ [7, 1, 8, 9, 10, 11, 6, 12, 13, 14, 15, 16, 17, 18, 19, 20, 21, 22, 23, 24, 25, 26, 27, 28, 29, 30, 31, 32, 33, 34, 35, 36, 37, 38, 39, 40, 41, 42, 43, 44, 45, 46, 47, 48, 49, 50, 51, 52, 53, 54, 55, 56, 57, 58, 59, 60, 61, 62, 63, 64, 65, 66, 67, 68, 69, 70, 71, 72, 73, 74, 75, 76, 77, 78, 79, 80, 81, 82, 83, 84, 85, 86, 87, 88, 89, 90, 91, 92, 93, 94, 95, 96, 97, 98, 99, 100, 101, 102, 103, 110, 111, 112, 113, 114, 115, 104, 105, 106, 107, 108, 109, 116, 117] (by decide +kernel) (by decide +kernel)
set_option maxRecDepth 20000 in
theorem gX5_argue_X5_doAct : GoodIn wsX5_argue (wsV RX5 117 RX5 yX5_doAct wsX5_doAct) := goodIn_app (goodIn_of _ (by decide +kernel)) ggX5_argue_X5_doAct
set_option maxRecDepth 20000 in
theorem ggX5_argue_X5_isJuror : GoodIn wsX5_argue wsX5_isJuror := goodIn_r _ [12, 13, 14, 94, 95, 96, 97, 98, 99, 100, 101, 102, 103, 110, 111, 112, 113, 114, 115] (by decide +kernel) (by decide +kernel)
set_option maxRecDepth 20000 in
theorem gX5_argue_X5_isJuror : GoodIn wsX5_argue (wsV RX5 81 RX5 yX5_isJuror wsX5_isJuror) := goodIn_app (goodIn_of _ (by decide +kernel)) ggX5_argue_X5_isJuror
theorem dX5_argue_0 : decode cX5_argue 0 = .ok (.aload_n 0, 1) := by decide +kernel
theorem dX5_argue_1 : decode cX5_argue 1 = .ok (.iconst 1, 1) := by decide +kernel
theorem dX5_argue_2 : decode cX5_argue 2 = .ok (.iload_n 1, 1) := by decide +kernel
theorem dX5_argue_3 : decode cX5_argue 3 = .ok (.invokevirtual 117, 3) := by decide +kernel
theorem dX5_argue_6 : decode cX5_argue 6 = .ok (.istore_n 2, 1) := by decide +kernel
theorem dX5_argue_7 : decode cX5_argue 7 = .ok (.iload_n 2, 1) := by decide +kernel
theorem dX5_argue_8 : decode cX5_argue 8 = .ok (.bipush (-9), 2) := by decide +kernel
theorem dX5_argue_10 : decode cX5_argue 10 = .ok (.if_icmp .ne 11, 3) := by decide +kernel
theorem dX5_argue_13 : decode cX5_argue 13 = .ok (.aload_n 0, 1) := by decide +kernel
theorem dX5_argue_14 : decode cX5_argue 14 = .ok (.iload_n 1, 1) := by decide +kernel
theorem dX5_argue_15 : decode cX5_argue 15 = .ok (.invokevirtual 81, 3) := by decide +kernel
theorem dX5_argue_18 : decode cX5_argue 18 = .ok (.ifCond .ne 5, 3) := by decide +kernel
theorem dX5_argue_21 : decode cX5_argue 21 = .ok (.iload_n 2, 1) := by decide +kernel
theorem dX5_argue_22 : decode cX5_argue 22 = .ok (.ireturn, 1) := by decide +kernel
theorem dX5_argue_23 : decode cX5_argue 23 = .ok (.aload_n 0, 1) := by decide +kernel
theorem dX5_argue_24 : decode cX5_argue 24 = .ok (.getfield 31, 3) := by decide +kernel
theorem dX5_argue_27 : decode cX5_argue 27 = .ok (.getfield 87, 3) := by decide +kernel
theorem dX5_argue_30 : decode cX5_argue 30 = .ok (.iload_n 1, 1) := by decide +kernel
theorem dX5_argue_31 : decode cX5_argue 31 = .ok (.iaload, 1) := by decide +kernel
theorem dX5_argue_32 : decode cX5_argue 32 = .ok (.ireturn, 1) := by decide +kernel
set_option maxRecDepth 20000 in
theorem ggX5_feed_X5_isJuror : GoodIn wsX5_feed wsX5_isJuror := goodIn_r _ [7, 8, 9, 94, 95, 96, 97, 98, 99, 100, 101, 102, 103, 110, 111, 112, 113, 114, 115] (by decide +kernel) (by decide +kernel)
set_option maxRecDepth 20000 in
theorem gX5_feed_X5_isJuror : GoodIn wsX5_feed (wsV RX5 81 RX5 yX5_isJuror wsX5_isJuror) := goodIn_app (goodIn_of _ (by decide +kernel)) ggX5_feed_X5_isJuror
set_option maxRecDepth 20000 in
theorem ggX5_feed_X5_doAct : GoodIn wsX5_feed wsX5_doAct := goodIn_r _ [13, 1, 14, 3, 4, 5, 6, 7, 8, 9, 15, 16, 17, 18, 19, 20, 21, 22, 23, 24, 25, 26, 27, 28, 29, 30, 31, 32, 33, 34, 35, 36, 37, 38, 39, 40, 41, 42, 43, 44, 45, 46, 47, 48, 49, 50, 51, 52, 53, 54, 55, 56, 57, 58, 59, 60, 61, 62, 63, 64, 65, 66, 67, 68, 69, 70, 71, 72, 73, 74, 75, 76, 77, 78, 79, 80, 81, 82, 83, 84, 85, 86, 87, 88, 89, 90, 91, 92, 93, 94, 95, 96, 97, 98, 99, 100, 101, 102, 103, 110, 111, 112, 113, 114, 115, 104, 105, 106, 107, 108, 109, 116, 117] (by decide +kernel) (by decide +kernel)
set_option maxRecDepth 20000 in
theorem gX5_feed_X5_doAct : GoodIn wsX5_feed (wsV RX5 117 RX5 yX5_doAct wsX5_doAct) := goodIn_app (goodIn_of _ (by decide +kernel)) ggX5_feed_X5_doAct
theorem dX5_feed_0 : decode cX5_feed 0 = .ok (.aload_n 0, 1) := by decide +kernel
theorem dX5_feed_1 : decode cX5_feed 1 = .ok (.iload_n 1, 1) := by decide +kernel
theorem dX5_feed_2 : decode cX5_feed 2 = .ok (.invokevirtual 81, 3) := by decide +kernel
theorem dX5_feed_5 : decode cX5_feed 5 = .ok (.ifCond .eq 15, 3) := by decide +kernel
theorem dX5_feed_8 : decode cX5_feed 8 = .ok (.aload_n 0, 1) := by decide +kernel
theorem dX5_feed_9 : decode cX5_feed 9 = .ok (.getfield 31, 3) := by decide +kernel
theorem dX5_feed_12 : decode cX5_feed 12 = .ok (.getfield 94, 3) := by decide +kernel
theorem dX5_feed_15 : decode cX5_feed 15 = .ok (.iload_n 1, 1) := by decide +kernel
theorem dX5_feed_16 : decode cX5_feed 16 = .ok (.iaload, 1) := by decide +kernel
theorem dX5_feed_17 : decode cX5_feed 17 = .ok (.goto 4, 3) := by decide +kernel
theorem dX5_feed_20 : decode cX5_feed 20 = .ok (.iconst 0, 1) := by decide +kernel
theorem dX5_feed_21 : decode cX5_feed 21 = .ok (.istore_n 2, 1) := by decide +kernel
theorem dX5_feed_22 : decode cX5_feed 22 = .ok (.aload_n 0, 1) := by decide +kernel
theorem dX5_feed_23 : decode cX5_feed 23 = .ok (.iconst 2, 1) := by decide +kernel
theorem dX5_feed_24 : decode cX5_feed 24 = .ok (.iload_n 1, 1) := by decide +kernel
theorem dX5_feed_25 : decode cX5_feed 25 = .ok (.invokevirtual 117, 3) := by decide +kernel
theorem dX5_feed_28 : decode cX5_feed 28 = .ok (.istore_n 3, 1) := by decide +kernel
theorem dX5_feed_29 : decode cX5_feed 29 = .ok (.iload_n 3, 1) := by decide +kernel
theorem dX5_feed_30 : decode cX5_feed 30 = .ok (.bipush (-9), 2) := by decide +kernel
theorem dX5_feed_32 : decode cX5_feed 32 = .ok (.if_icmp .eq 7, 3) := by decide +kernel
theorem dX5_feed_35 : decode cX5_feed 35 = .ok (.iload_n 3, 1) := by decide +kernel
theorem dX5_feed_36 : decode cX5_feed 36 = .ok (.goto 4, 3) := by decide +kernel
theorem dX5_feed_39 : decode cX5_feed 39 = .ok (.iload_n 2, 1) := by decide +kernel
theorem dX5_feed_40 : decode cX5_feed 40 = .ok (.ireturn, 1) := by decide +kernel
set_option maxRecDepth 20000 in
theorem ggX5_die_X5_doAct : GoodIn wsX5_die wsX5_doAct := goodIn_r _ [7, 1, 8, 9, 10, 11, 6, 12, 13, 14, 15, 16, 17, 18, 19, 20, 21, 22, 23, 24, 25, 26, 27, 28, 29, 30, 31, 32, 33, 34, 35, 36, 37, 38, 39, 40, 41, 42, 43, 44, 45, 46, 47, 48, 49, 50, 51, 52, 53, 54, 55, 56, 57, 58, 59, 60, 61, 62, 63, 64, 65, 66, 67, 68, 69, 70, 71, 72, 73, 74, 75, 76, 77, 78, 79, 80, 81, 82, 83, 84, 85, 86, 87, 88, 89, 90, 91, 92, 93, 95, 96, 97, 98, 99, 100, 101, 102, 103, 104, 111, 112, 113, 114, 115, 116, 105, 106, 107, 108, 109, 110, 117, 118] (by decide +kernel) (by decide +kernel)
set_option maxRecDepth 20000 in
theorem gX5_die_X5_doAct : GoodIn wsX5_die (wsV RX5 117 RX5 yX5_doAct wsX5_doAct) := goodIn_app (goodIn_of _ (by decide +kernel)) ggX5_die_X5_doAct
set_option maxRecDepth 20000 in
theorem ggX5_die_J6_bitCount_0f7a4 : GoodIn wsX5_die wsJ6_bitCount_0f7a4 := goodIn_r _ [63, 64, 65, 66] (by decide +kernel) (by decide +kernel)
set_option maxRecDepth 20000 in
theorem gX5_die_J6_bitCount_0f7a4 : GoodIn wsX5_die (va_wsS RX5 111 yJ6_bitCount_0f7a4 wsJ6_bitCount_0f7a4) := goodIn_app (goodIn_of _ (by decide +kernel)) ggX5_die_J6_bitCount_0f7a4
theorem dX5_die_0 : decode cX5_die 0 = .ok (.aload_n 0, 1) := by decide +kernel
theorem dX5_die_1 : decode cX5_die 1 = .ok (.iconst 3, 1) := by decide +kernel
theorem dX5_die_2 : decode cX5_die 2 = .ok (.iload_n 1, 1) := by decide +kernel
theorem dX5_die_3 : decode cX5_die 3 = .ok (.invokevirtual 117, 3) := by decide +kernel
theorem dX5_die_6 : decode cX5_die 6 = .ok (.istore_n 2, 1) := by decide +kernel
theorem dX5_die_7 : decode cX5_die 7 = .ok (.iload_n 2, 1) := by decide +kernel
theorem dX5_die_8 : decode cX5_die 8 = .ok (.bipush (-9), 2) := by decide +kernel
theorem dX5_die_10 : decode cX5_die 10 = .ok (.if_icmp .eq 7, 3) := by decide +kernel
theorem dX5_die_13 : decode cX5_die 13 = .ok (.iload_n 2, 1) := by decide +kernel
theorem dX5_die_14 : decode cX5_die 14 = .ok (.goto 13, 3) := by decide +kernel
theorem dX5_die_17 : decode cX5_die 17 = .ok (.aload_n 0, 1) := by decide +kernel
theorem dX5_die_18 : decode cX5_die 18 = .ok (.getfield 31, 3) := by decide +kernel
theorem dX5_die_21 : decode cX5_die 21 = .ok (.getfield 121, 3) := by decide +kernel
theorem dX5_die_24 : decode cX5_die 24 = .ok (.invokestatic 111, 3) := by decide +kernel
theorem dX5_die_27 : decode cX5_die 27 = .ok (.ireturn, 1) := by decide +kernel
set_option maxRecDepth 20000 in
theorem ggX5_toss_X5_doAct : GoodIn wsX5_toss wsX5_doAct := goodIn_r _ [6, 1, 7, 8, 9, 10, 5, 11, 12, 13, 14, 15, 16, 17, 18, 19, 20, 21, 22, 23, 24, 25, 26, 27, 28, 29, 30, 31, 32, 33, 34, 35, 36, 37, 38, 39, 40, 41, 42, 43, 44, 45, 46, 47, 48, 49, 50, 51, 52, 53, 54, 55, 56, 57, 58, 59, 60, 61, 62, 63, 64, 65, 66, 67, 68, 69, 70, 71, 72, 73, 74, 75, 76, 77, 78, 79, 80, 81, 82, 83, 84, 85, 86, 87, 88, 89, 90, 91, 92, 94, 95, 96, 97, 98, 99, 100, 101, 102, 103, 104, 105, 106, 107, 108, 109, 110, 111, 112, 113, 114, 115, 116, 117] (by decide +kernel) (by decide +kernel)
set_option maxRecDepth 20000 in
theorem gX5_toss_X5_doAct : GoodIn wsX5_toss (wsV RX5 117 RX5 yX5_doAct wsX5_doAct) := goodIn_app (goodIn_of _ (by decide +kernel)) ggX5_toss_X5_doAct
set_option maxRecDepth 20000 in
theorem ggX5_toss_X2_isYes : GoodIn wsX5_toss wsX2_isYes := goodIn_r _ [92, 41, 110, 111, 112, 113, 114, 115] (by decide +kernel) (by decide +kernel)
set_option maxRecDepth 20000 in
theorem gX5_toss_X2_isYes : GoodIn wsX5_toss (wsV RX5 84 RX2 yX2_isYes wsX2_isYes) := goodIn_app (goodIn_of _ (by decide +kernel)) ggX5_toss_X2_isYes
theorem dX5_toss_0 : decode cX5_toss 0 = .ok (.aload_n 0, 1) := by decide +kernel
theorem dX5_toss_1 : decode cX5_toss 1 = .ok (.iconst 4, 1) := by decide +kernel
theorem dX5_toss_2 : decode cX5_toss 2 = .ok (.iload_n 1, 1) := by decide +kernel
theorem dX5_toss_3 : decode cX5_toss 3 = .ok (.invokevirtual 117, 3) := by decide +kernel
theorem dX5_toss_6 : decode cX5_toss 6 = .ok (.istore_n 2, 1) := by decide +kernel
theorem dX5_toss_7 : decode cX5_toss 7 = .ok (.iload_n 2, 1) := by decide +kernel
theorem dX5_toss_8 : decode cX5_toss 8 = .ok (.bipush (-9), 2) := by decide +kernel
theorem dX5_toss_10 : decode cX5_toss 10 = .ok (.if_icmp .eq 5, 3) := by decide +kernel
theorem dX5_toss_13 : decode cX5_toss 13 = .ok (.iload_n 2, 1) := by decide +kernel
theorem dX5_toss_14 : decode cX5_toss 14 = .ok (.ireturn, 1) := by decide +kernel
theorem dX5_toss_15 : decode cX5_toss 15 = .ok (.aload_n 0, 1) := by decide +kernel
theorem dX5_toss_16 : decode cX5_toss 16 = .ok (.getfield 31, 3) := by decide +kernel
theorem dX5_toss_19 : decode cX5_toss 19 = .ok (.iload_n 1, 1) := by decide +kernel
theorem dX5_toss_20 : decode cX5_toss 20 = .ok (.invokevirtual 84, 3) := by decide +kernel
theorem dX5_toss_23 : decode cX5_toss 23 = .ok (.ifCond .eq 7, 3) := by decide +kernel
theorem dX5_toss_26 : decode cX5_toss 26 = .ok (.iconst 1, 1) := by decide +kernel
theorem dX5_toss_27 : decode cX5_toss 27 = .ok (.goto 4, 3) := by decide +kernel
theorem dX5_toss_30 : decode cX5_toss 30 = .ok (.iconst 0, 1) := by decide +kernel
theorem dX5_toss_31 : decode cX5_toss 31 = .ok (.ireturn, 1) := by decide +kernel
set_option maxRecDepth 20000 in
theorem ggX5_undo_X0_takeBack : GoodIn wsX5_undo wsX0_takeBack := goodIn_r _ [8, 9, 10, 11, 12, 13, 14, 15, 16, 17, 18, 19, 20, 31, 32, 33, 34, 35, 36, 37, 38] (by decide +kernel) (by decide +kernel)
set_option maxRecDepth 20000 in
theorem gX5_undo_X0_takeBack : GoodIn wsX5_undo (wsV RX5 124 RX0 yX0_takeBack wsX0_takeBack) := goodIn_app (goodIn_of _ (by decide +kernel)) ggX5_undo_X0_takeBack
theorem dX5_undo_0 : decode cX5_undo 0 = .ok (.aload_n 0, 1) := by decide +kernel
theorem dX5_undo_1 : decode cX5_undo 1 = .ok (.getfield 41, 3) := by decide +kernel
theorem dX5_undo_4 : decode cX5_undo 4 = .ok (.aload_n 0, 1) := by decide +kernel
theorem dX5_undo_5 : decode cX5_undo 5 = .ok (.getfield 31, 3) := by decide +kernel
theorem dX5_undo_8 : decode cX5_undo 8 = .ok (.invokevirtual 124, 3) := by decide +kernel
theorem dX5_undo_11 : decode cX5_undo 11 = .ok (.ifCond .eq 13, 3) := by decide +kernel
theorem dX5_undo_14 : decode cX5_undo 14 = .ok (.aload_n 0, 1) := by decide +kernel
theorem dX5_undo_15 : decode cX5_undo 15 = .ok (.getfield 41, 3) := by decide +kernel
theorem dX5_undo_18 : decode cX5_undo 18 = .ok (.getfield 128, 3) := by decide +kernel
theorem dX5_undo_21 : decode cX5_undo 21 = .ok (.goto 5, 3) := by decide +kernel
theorem dX5_undo_24 : decode cX5_undo 24 = .ok (.bipush (-3), 2) := by decide +kernel
theorem dX5_undo_26 : decode cX5_undo 26 = .ok (.ireturn, 1) := by decide +kernel
set_option maxRecDepth 20000 in
theorem ggX5_ahead_X2_copyFrom : GoodIn wsX5_ahead wsX2_copyFrom := goodIn_r _ [7, 8, 9, 10, 11, 12, 74, 75, 76, 77, 78, 79] (by decide +kernel) (by decide +kernel)
set_option maxRecDepth 20000 in
theorem gX5_ahead_X2_copyFrom : GoodIn wsX5_ahead (wsV RX5 131 RX2 yX2_copyFrom wsX2_copyFrom) := goodIn_app (goodIn_of _ (by decide +kernel)) ggX5_ahead_X2_copyFrom
set_option maxRecDepth 20000 in
theorem ggX5_ahead_X2_passHour : GoodIn wsX5_ahead wsX2_passHour := goodIn_r _ [16, 10, 8, 17, 18, 19, 6, 20, 9, 21, 22, 23, 24, 25, 26, 27, 28, 29, 30, 31, 32, 33, 34, 35, 36, 37, 12, 38, 39, 40, 41, 42, 43, 44, 45, 46, 47, 48, 49, 50, 51, 52, 53, 54, 55, 11, 56, 57, 58, 59, 74, 75, 76, 77, 78, 79, 80, 81, 82, 83, 84, 85] (by decide +kernel) (by decide +kernel)
set_option maxRecDepth 20000 in
theorem gX5_ahead_X2_passHour : GoodIn wsX5_ahead (wsV RX5 107 RX2 yX2_passHour wsX2_passHour) := goodIn_app (goodIn_of _ (by decide +kernel)) ggX5_ahead_X2_passHour
set_option maxRecDepth 20000 in
theorem ggX5_ahead_X2_yesThere : GoodIn wsX5_ahead wsX2_yesThere := goodIn_r _ [63, 8, 9, 74, 75, 76, 77, 78, 79] (by decide +kernel) (by decide +kernel)
set_option maxRecDepth 20000 in
theorem gX5_ahead_X2_yesThere : GoodIn wsX5_ahead (wsV RX5 134 RX2 yX2_yesThere wsX2_yesThere) := goodIn_app (goodIn_of _ (by decide +kernel)) ggX5_ahead_X2_yesThere
theorem dX5_ahead_0 : decode cX5_ahead 0 = .ok (.iload_n 1, 1) := by decide +kernel
theorem dX5_ahead_1 : decode cX5_ahead 1 = .ok (.ifCond .lt 9, 3) := by decide +kernel
theorem dX5_ahead_4 : decode cX5_ahead 4 = .ok (.iload_n 1, 1) := by decide +kernel
theorem dX5_ahead_5 : decode cX5_ahead 5 = .ok (.bipush 9, 2) := by decide +kernel
theorem dX5_ahead_7 : decode cX5_ahead 7 = .ok (.if_icmp .le 6, 3) := by decide +kernel
theorem dX5_ahead_10 : decode cX5_ahead 10 = .ok (.bipush (-2), 2) := by decide +kernel
theorem dX5_ahead_12 : decode cX5_ahead 12 = .ok (.ireturn, 1) := by decide +kernel
theorem dX5_ahead_13 : decode cX5_ahead 13 = .ok (.aload_n 0, 1) := by decide +kernel
theorem dX5_ahead_14 : decode cX5_ahead 14 = .ok (.getfield 35, 3) := by decide +kernel
theorem dX5_ahead_17 : decode cX5_ahead 17 = .ok (.aload_n 0, 1) := by decide +kernel
theorem dX5_ahead_18 : decode cX5_ahead 18 = .ok (.getfield 31, 3) := by decide +kernel
theorem dX5_ahead_21 : decode cX5_ahead 21 = .ok (.invokevirtual 131, 3) := by decide +kernel
theorem dX5_ahead_24 : decode cX5_ahead 24 = .ok (.iconst 0, 1) := by decide +kernel
theorem dX5_ahead_25 : decode cX5_ahead 25 = .ok (.istore_n 2, 1) := by decide +kernel
theorem dX5_ahead_26 : decode cX5_ahead 26 = .ok (.iload_n 2, 1) := by decide +kernel
theorem dX5_ahead_27 : decode cX5_ahead 27 = .ok (.iload_n 1, 1) := by decide +kernel
theorem dX5_ahead_28 : decode cX5_ahead 28 = .ok (.if_icmp .ge 17, 3) := by decide +kernel
theorem dX5_ahead_31 : decode cX5_ahead 31 = .ok (.aload_n 0, 1) := by decide +kernel
theorem dX5_ahead_32 : decode cX5_ahead 32 = .ok (.getfield 35, 3) := by decide +kernel
theorem dX5_ahead_35 : decode cX5_ahead 35 = .ok (.invokevirtual 107, 3) := by decide +kernel
theorem dX5_ahead_38 : decode cX5_ahead 38 = .ok (.pop, 1) := by decide +kernel
theorem dX5_ahead_39 : decode cX5_ahead 39 = .ok (.iinc 2 1, 3) := by decide +kernel
theorem dX5_ahead_42 : decode cX5_ahead 42 = .ok (.goto (-16), 3) := by decide +kernel
theorem dX5_ahead_45 : decode cX5_ahead 45 = .ok (.aload_n 0, 1) := by decide +kernel
theorem dX5_ahead_46 : decode cX5_ahead 46 = .ok (.getfield 35, 3) := by decide +kernel
theorem dX5_ahead_49 : decode cX5_ahead 49 = .ok (.invokevirtual 134, 3) := by decide +kernel
theorem dX5_ahead_52 : decode cX5_ahead 52 = .ok (.ireturn, 1) := by decide +kernel
set_option maxRecDepth 20000 in
theorem ggX5_end_X2_copyFrom : GoodIn wsX5_end wsX2_copyFrom := goodIn_r _ [7, 8, 9, 10, 11, 12, 75, 76, 77, 78, 79, 80] (by decide +kernel) (by decide +kernel)
set_option maxRecDepth 20000 in
theorem gX5_end_X2_copyFrom : GoodIn wsX5_end (wsV RX5 131 RX2 yX2_copyFrom wsX2_copyFrom) := goodIn_app (goodIn_of _ (by decide +kernel)) ggX5_end_X2_copyFrom
set_option maxRecDepth 20000 in
theorem ggX5_end_X2_passHoursToEnd : GoodIn wsX5_end wsX2_passHoursToEnd := goodIn_r _ [16, 17, 18, 19, 6, 20, 9, 8, 21, 22, 23, 24, 25, 26, 27, 28, 29, 30, 31, 32, 33, 34, 35, 36, 37, 10, 38, 39, 40, 41, 12, 42, 43, 44, 45, 46, 47, 48, 49, 50, 51, 52, 53, 54, 55, 56, 57, 58, 59, 11, 60, 61, 62, 63, 75, 76, 77, 78, 79, 80, 81, 82, 83, 84, 85, 86] (by decide +kernel) (by decide +kernel)
set_option maxRecDepth 20000 in
theorem gX5_end_X2_passHoursToEnd : GoodIn wsX5_end (wsV RX5 137 RX2 yX2_passHoursToEnd wsX2_passHoursToEnd) := goodIn_app (goodIn_of _ (by decide +kernel)) ggX5_end_X2_passHoursToEnd
set_option maxRecDepth 20000 in
theorem ggX5_end_X2_verdict : GoodIn wsX5_end wsX2_verdict := goodIn_r _ [20, 9, 8, 21, 22, 23, 24, 25, 26, 27, 28, 29, 30, 6, 31, 32, 33, 75, 76, 77, 78, 79, 80, 81, 82, 83, 84, 85, 86] (by decide +kernel) (by decide +kernel)
set_option maxRecDepth 20000 in
theorem gX5_end_X2_verdict : GoodIn wsX5_end (wsV RX5 140 RX2 yX2_verdict wsX2_verdict) := goodIn_app (goodIn_of _ (by decide +kernel)) ggX5_end_X2_verdict
theorem dX5_end_0 : decode cX5_end 0 = .ok (.iload_n 1, 1) := by decide +kernel
theorem dX5_end_1 : decode cX5_end 1 = .ok (.ifCond .lt 8, 3) := by decide +kernel
theorem dX5_end_4 : decode cX5_end 4 = .ok (.iload_n 1, 1) := by decide +kernel
theorem dX5_end_5 : decode cX5_end 5 = .ok (.iconst 1, 1) := by decide +kernel
theorem dX5_end_6 : decode cX5_end 6 = .ok (.if_icmp .le 6, 3) := by decide +kernel
theorem dX5_end_9 : decode cX5_end 9 = .ok (.bipush (-2), 2) := by decide +kernel
theorem dX5_end_11 : decode cX5_end 11 = .ok (.ireturn, 1) := by decide +kernel
theorem dX5_end_12 : decode cX5_end 12 = .ok (.aload_n 0, 1) := by decide +kernel
theorem dX5_end_13 : decode cX5_end 13 = .ok (.getfield 35, 3) := by decide +kernel
theorem dX5_end_16 : decode cX5_end 16 = .ok (.aload_n 0, 1) := by decide +kernel
theorem dX5_end_17 : decode cX5_end 17 = .ok (.getfield 31, 3) := by decide +kernel
theorem dX5_end_20 : decode cX5_end 20 = .ok (.invokevirtual 131, 3) := by decide +kernel
theorem dX5_end_23 : decode cX5_end 23 = .ok (.aload_n 0, 1) := by decide +kernel
theorem dX5_end_24 : decode cX5_end 24 = .ok (.getfield 35, 3) := by decide +kernel
theorem dX5_end_27 : decode cX5_end 27 = .ok (.invokevirtual 137, 3) := by decide +kernel
theorem dX5_end_30 : decode cX5_end 30 = .ok (.istore_n 2, 1) := by decide +kernel
theorem dX5_end_31 : decode cX5_end 31 = .ok (.iload_n 2, 1) := by decide +kernel
theorem dX5_end_32 : decode cX5_end 32 = .ok (.bipush (-9), 2) := by decide +kernel
theorem dX5_end_34 : decode cX5_end 34 = .ok (.if_icmp .eq 7, 3) := by decide +kernel
theorem dX5_end_37 : decode cX5_end 37 = .ok (.iload_n 1, 1) := by decide +kernel
theorem dX5_end_38 : decode cX5_end 38 = .ok (.ifCond .ne 7, 3) := by decide +kernel
theorem dX5_end_41 : decode cX5_end 41 = .ok (.iload_n 2, 1) := by decide +kernel
theorem dX5_end_42 : decode cX5_end 42 = .ok (.goto 10, 3) := by decide +kernel
theorem dX5_end_45 : decode cX5_end 45 = .ok (.aload_n 0, 1) := by decide +kernel
theorem dX5_end_46 : decode cX5_end 46 = .ok (.getfield 35, 3) := by decide +kernel
theorem dX5_end_49 : decode cX5_end 49 = .ok (.invokevirtual 140, 3) := by decide +kernel
theorem dX5_end_52 : decode cX5_end 52 = .ok (.ireturn, 1) := by decide +kernel
set_option maxRecDepth 20000 in
theorem ggX5_gives_X5_isJuror : GoodIn wsX5_gives wsX5_isJuror := goodIn_r _ [7, 8, 9, 68, 69, 70, 71, 72, 73, 74, 75, 76, 77, 78, 79, 80, 81, 82, 83] (by decide +kernel) (by decide +kernel)
set_option maxRecDepth 20000 in
theorem gX5_gives_X5_isJuror : GoodIn wsX5_gives (wsV RX5 81 RX5 yX5_isJuror wsX5_isJuror) := goodIn_app (goodIn_of _ (by decide +kernel)) ggX5_gives_X5_isJuror
set_option maxRecDepth 20000 in
theorem ggX5_gives_X2_isThere : GoodIn wsX5_gives wsX2_isThere := goodIn_r _ [14, 15, 84, 85, 86, 87, 88, 89] (by decide +kernel) (by decide +kernel)
set_option maxRecDepth 20000 in
theorem gX5_gives_X2_isThere : GoodIn wsX5_gives (wsV RX5 100 RX2 yX2_isThere wsX2_isThere) := goodIn_app (goodIn_of _ (by decide +kernel)) ggX5_gives_X2_isThere
set_option maxRecDepth 20000 in
theorem ggX5_gives_X2_copyFrom : GoodIn wsX5_gives wsX2_copyFrom := goodIn_r _ [19, 20, 15, 21, 22, 23, 84, 85, 86, 87, 88, 89] (by decide +kernel) (by decide +kernel)
set_option maxRecDepth 20000 in
theorem gX5_gives_X2_copyFrom : GoodIn wsX5_gives (wsV RX5 131 RX2 yX2_copyFrom wsX2_copyFrom) := goodIn_app (goodIn_of _ (by decide +kernel)) ggX5_gives_X2_copyFrom
set_option maxRecDepth 20000 in
theorem ggX5_gives_X2_passHour : GoodIn wsX5_gives wsX2_passHour := goodIn_r _ [27, 21, 20, 28, 29, 30, 13, 31, 15, 32, 33, 34, 35, 36, 37, 38, 39, 40, 41, 42, 43, 44, 45, 46, 47, 48, 23, 49, 50, 51, 52, 53, 54, 11, 12, 14, 55, 56, 57, 58, 59, 60, 61, 62, 63, 22, 64, 65, 66, 67, 84, 85, 86, 87, 88, 89, 78, 79, 80, 81, 82, 83] (by decide +kernel) (by decide +kernel)
set_option maxRecDepth 20000 in
theorem gX5_gives_X2_passHour : GoodIn wsX5_gives (wsV RX5 107 RX2 yX2_passHour wsX2_passHour) := goodIn_app (goodIn_of _ (by decide +kernel)) ggX5_gives_X2_passHour
theorem dX5_gives_0 : decode cX5_gives 0 = .ok (.aload_n 0, 1) := by decide +kernel
theorem dX5_gives_1 : decode cX5_gives 1 = .ok (.iload_n 1, 1) := by decide +kernel
theorem dX5_gives_2 : decode cX5_gives 2 = .ok (.invokevirtual 81, 3) := by decide +kernel
theorem dX5_gives_5 : decode cX5_gives 5 = .ok (.ifCond .ne 5, 3) := by decide +kernel
theorem dX5_gives_8 : decode cX5_gives 8 = .ok (.iconst (-1), 1) := by decide +kernel
theorem dX5_gives_9 : decode cX5_gives 9 = .ok (.ireturn, 1) := by decide +kernel
theorem dX5_gives_10 : decode cX5_gives 10 = .ok (.aload_n 0, 1) := by decide +kernel
theorem dX5_gives_11 : decode cX5_gives 11 = .ok (.getfield 31, 3) := by decide +kernel
theorem dX5_gives_14 : decode cX5_gives 14 = .ok (.iload_n 1, 1) := by decide +kernel
theorem dX5_gives_15 : decode cX5_gives 15 = .ok (.invokevirtual 100, 3) := by decide +kernel
theorem dX5_gives_18 : decode cX5_gives 18 = .ok (.ifCond .ne 6, 3) := by decide +kernel
theorem dX5_gives_21 : decode cX5_gives 21 = .ok (.bipush (-3), 2) := by decide +kernel
theorem dX5_gives_23 : decode cX5_gives 23 = .ok (.ireturn, 1) := by decide +kernel
theorem dX5_gives_24 : decode cX5_gives 24 = .ok (.aload_n 0, 1) := by decide +kernel
theorem dX5_gives_25 : decode cX5_gives 25 = .ok (.getfield 35, 3) := by decide +kernel
theorem dX5_gives_28 : decode cX5_gives 28 = .ok (.aload_n 0, 1) := by decide +kernel
theorem dX5_gives_29 : decode cX5_gives 29 = .ok (.getfield 31, 3) := by decide +kernel
theorem dX5_gives_32 : decode cX5_gives 32 = .ok (.invokevirtual 131, 3) := by decide +kernel
theorem dX5_gives_35 : decode cX5_gives 35 = .ok (.iconst 1, 1) := by decide +kernel
theorem dX5_gives_36 : decode cX5_gives 36 = .ok (.istore_n 2, 1) := by decide +kernel
theorem dX5_gives_37 : decode cX5_gives 37 = .ok (.iload_n 2, 1) := by decide +kernel
theorem dX5_gives_38 : decode cX5_gives 38 = .ok (.bipush 20, 2) := by decide +kernel
theorem dX5_gives_40 : decode cX5_gives 40 = .ok (.if_icmp .gt 26, 3) := by decide +kernel
theorem dX5_gives_43 : decode cX5_gives 43 = .ok (.aload_n 0, 1) := by decide +kernel
theorem dX5_gives_44 : decode cX5_gives 44 = .ok (.getfield 35, 3) := by decide +kernel
theorem dX5_gives_47 : decode cX5_gives 47 = .ok (.invokevirtual 107, 3) := by decide +kernel
theorem dX5_gives_50 : decode cX5_gives 50 = .ok (.iload_n 1, 1) := by decide +kernel
theorem dX5_gives_51 : decode cX5_gives 51 = .ok (.ishr, 1) := by decide +kernel
theorem dX5_gives_52 : decode cX5_gives 52 = .ok (.iconst 1, 1) := by decide +kernel
theorem dX5_gives_53 : decode cX5_gives 53 = .ok (.iand, 1) := by decide +kernel
theorem dX5_gives_54 : decode cX5_gives 54 = .ok (.iconst 1, 1) := by decide +kernel
theorem dX5_gives_55 : decode cX5_gives 55 = .ok (.if_icmp .ne 5, 3) := by decide +kernel
theorem dX5_gives_58 : decode cX5_gives 58 = .ok (.iload_n 2, 1) := by decide +kernel
theorem dX5_gives_59 : decode cX5_gives 59 = .ok (.ireturn, 1) := by decide +kernel
theorem dX5_gives_60 : decode cX5_gives 60 = .ok (.iinc 2 1, 3) := by decide +kernel
theorem dX5_gives_63 : decode cX5_gives 63 = .ok (.goto (-26), 3) := by decide +kernel
theorem dX5_gives_66 : decode cX5_gives 66 = .ok (.bipush (-9), 2) := by decide +kernel
theorem dX5_gives_68 : decode cX5_gives 68 = .ok (.ireturn, 1) := by decide +kernel
set_option maxRecDepth 20000 in
theorem ggX5_toFeed_X5_isSide : GoodIn wsX5_toFeed wsX5_isSide := goodIn_r _ [4] (by decide +kernel) (by decide +kernel)
set_option maxRecDepth 20000 in
theorem gX5_toFeed_X5_isSide : GoodIn wsX5_toFeed (va_wsS RX5 143 yX5_isSide wsX5_isSide) := goodIn_app (goodIn_of _ (by decide +kernel)) ggX5_toFeed_X5_isSide
set_option maxRecDepth 20000 in
theorem ggX5_toFeed_X5_fewestFor : GoodIn wsX5_toFeed wsX5_fewestFor := goodIn_r _ [8, 9, 10, 11, 12, 13, 14, 15, 16, 17, 18, 19, 20, 3, 21, 22, 23, 24, 25, 26, 27, 28, 29, 30, 31, 32, 33, 34, 35, 36, 37, 38, 39, 40, 41, 42, 43, 44, 45, 46, 47, 48, 49, 50, 51, 52, 53, 54, 55, 56, 57, 58, 59, 60, 61, 62, 63, 64, 65, 66, 67, 68, 69, 70, 71, 72, 73, 74, 75, 76, 77, 78, 79, 80, 81, 82, 83, 84, 85, 86, 87, 88, 89, 90, 91, 92, 93, 94, 95, 96, 97, 98, 99, 100, 101, 102, 103, 104, 105, 106, 107] (by decide +kernel) (by decide +kernel)
set_option maxRecDepth 20000 in
theorem gX5_toFeed_X5_fewestFor : GoodIn wsX5_toFeed (wsV RX5 146 RX5 yX5_fewestFor wsX5_fewestFor) := goodIn_app (goodIn_of _ (by decide +kernel)) ggX5_toFeed_X5_fewestFor
theorem dX5_toFeed_0 : decode cX5_toFeed 0 = .ok (.iload_n 1, 1) := by decide +kernel
theorem dX5_toFeed_1 : decode cX5_toFeed 1 = .ok (.invokestatic 143, 3) := by decide +kernel
theorem dX5_toFeed_4 : decode cX5_toFeed 4 = .ok (.ifCond .eq 12, 3) := by decide +kernel
theorem dX5_toFeed_7 : decode cX5_toFeed 7 = .ok (.aload_n 0, 1) := by decide +kernel
theorem dX5_toFeed_8 : decode cX5_toFeed 8 = .ok (.iconst 2, 1) := by decide +kernel
theorem dX5_toFeed_9 : decode cX5_toFeed 9 = .ok (.iload_n 1, 1) := by decide +kernel
theorem dX5_toFeed_10 : decode cX5_toFeed 10 = .ok (.invokevirtual 146, 3) := by decide +kernel
theorem dX5_toFeed_13 : decode cX5_toFeed 13 = .ok (.goto 5, 3) := by decide +kernel
theorem dX5_toFeed_16 : decode cX5_toFeed 16 = .ok (.bipush (-2), 2) := by decide +kernel
theorem dX5_toFeed_18 : decode cX5_toFeed 18 = .ok (.ireturn, 1) := by decide +kernel
set_option maxRecDepth 20000 in
theorem ggX5_strike_X5_isSide : GoodIn wsX5_strike wsX5_isSide := goodIn_r _ [4] (by decide +kernel) (by decide +kernel)
set_option maxRecDepth 20000 in
theorem gX5_strike_X5_isSide : GoodIn wsX5_strike (va_wsS RX5 143 yX5_isSide wsX5_isSide) := goodIn_app (goodIn_of _ (by decide +kernel)) ggX5_strike_X5_isSide
set_option maxRecDepth 20000 in
theorem ggX5_strike_X5_fewestFor : GoodIn wsX5_strike wsX5_fewestFor := goodIn_r _ [8, 9, 10, 11, 12, 13, 14, 15, 16, 17, 18, 19, 20, 3, 21, 22, 23, 24, 25, 26, 27, 28, 29, 30, 31, 32, 33, 34, 35, 36, 37, 38, 39, 40, 41, 42, 43, 44, 45, 46, 47, 48, 49, 50, 51, 52, 53, 54, 55, 56, 57, 58, 59, 60, 61, 62, 63, 64, 65, 66, 67, 68, 69, 70, 71, 72, 73, 74, 75, 76, 77, 78, 79, 80, 81, 82, 83, 84, 85, 86, 87, 88, 89, 90, 91, 92, 93, 94, 95, 96, 97, 98, 99, 100, 101, 102, 103, 104, 105, 106, 107] (by decide +kernel) (by decide +kernel)
set_option maxRecDepth 20000 in
theorem gX5_strike_X5_fewestFor : GoodIn wsX5_strike (wsV RX5 146 RX5 yX5_fewestFor wsX5_fewestFor) := goodIn_app (goodIn_of _ (by decide +kernel)) ggX5_strike_X5_fewestFor
theorem dX5_strike_0 : decode cX5_strike 0 = .ok (.iload_n 1, 1) := by decide +kernel
theorem dX5_strike_1 : decode cX5_strike 1 = .ok (.invokestatic 143, 3) := by decide +kernel
theorem dX5_strike_4 : decode cX5_strike 4 = .ok (.ifCond .eq 12, 3) := by decide +kernel
theorem dX5_strike_7 : decode cX5_strike 7 = .ok (.aload_n 0, 1) := by decide +kernel
theorem dX5_strike_8 : decode cX5_strike 8 = .ok (.iconst 3, 1) := by decide +kernel
theorem dX5_strike_9 : decode cX5_strike 9 = .ok (.iload_n 1, 1) := by decide +kernel
theorem dX5_strike_10 : decode cX5_strike 10 = .ok (.invokevirtual 146, 3) := by decide +kernel
theorem dX5_strike_13 : decode cX5_strike 13 = .ok (.goto 5, 3) := by decide +kernel
theorem dX5_strike_16 : decode cX5_strike 16 = .ok (.bipush (-2), 2) := by decide +kernel
theorem dX5_strike_18 : decode cX5_strike 18 = .ok (.ireturn, 1) := by decide +kernel
set_option maxRecDepth 20000 in
theorem ggX5_toMove_X5_isSide : GoodIn wsX5_toMove wsX5_isSide := goodIn_r _ [4] (by decide +kernel) (by decide +kernel)
set_option maxRecDepth 20000 in
theorem gX5_toMove_X5_isSide : GoodIn wsX5_toMove (va_wsS RX5 143 yX5_isSide wsX5_isSide) := goodIn_app (goodIn_of _ (by decide +kernel)) ggX5_toMove_X5_isSide
set_option maxRecDepth 20000 in
theorem ggX5_toMove_X5_leastMoveFor : GoodIn wsX5_toMove wsX5_leastMoveFor := goodIn_r _ [8, 9, 10, 11, 3, 12, 13, 14, 15, 16, 17, 18, 19, 20, 21, 22, 23, 24, 25, 26, 27, 28, 29, 30, 31, 32, 33, 34, 35, 36, 37, 38, 39, 40, 41, 42, 43, 44, 45, 46, 47, 48, 49, 50, 51, 52, 53, 54, 55, 56, 57, 58, 59, 60, 61, 62, 63, 64, 65, 66, 67, 68, 69, 70, 71, 72, 73, 74, 75, 76, 77, 78, 79, 80, 81, 82, 83, 84, 85, 86, 87, 88, 92, 93, 94, 95, 96, 97, 98, 99, 100, 101, 102, 103, 104, 105, 106, 107, 108, 109, 110, 111, 112, 113] (by decide +kernel) (by decide +kernel)
set_option maxRecDepth 20000 in
theorem gX5_toMove_X5_leastMoveFor : GoodIn wsX5_toMove (wsV RX5 149 RX5 yX5_leastMoveFor wsX5_leastMoveFor) := goodIn_app (goodIn_of _ (by decide +kernel)) ggX5_toMove_X5_leastMoveFor
set_option maxRecDepth 20000 in
theorem ggX5_toMove_X5_figuresOf : GoodIn wsX5_toMove wsX5_figuresOf := goodIn_r _ [91] (by decide +kernel) (by decide +kernel)
set_option maxRecDepth 20000 in
theorem gX5_toMove_X5_figuresOf : GoodIn wsX5_toMove (va_wsS RX5 152 yX5_figuresOf wsX5_figuresOf) := goodIn_app (goodIn_of _ (by decide +kernel)) ggX5_toMove_X5_figuresOf
theorem dX5_toMove_0 : decode cX5_toMove 0 = .ok (.iload_n 1, 1) := by decide +kernel
theorem dX5_toMove_1 : decode cX5_toMove 1 = .ok (.invokestatic 143, 3) := by decide +kernel
theorem dX5_toMove_4 : decode cX5_toMove 4 = .ok (.ifCond .ne 6, 3) := by decide +kernel
theorem dX5_toMove_7 : decode cX5_toMove 7 = .ok (.bipush (-2), 2) := by decide +kernel
theorem dX5_toMove_9 : decode cX5_toMove 9 = .ok (.ireturn, 1) := by decide +kernel
theorem dX5_toMove_10 : decode cX5_toMove 10 = .ok (.aload_n 0, 1) := by decide +kernel
theorem dX5_toMove_11 : decode cX5_toMove 11 = .ok (.iload_n 1, 1) := by decide +kernel
theorem dX5_toMove_12 : decode cX5_toMove 12 = .ok (.invokevirtual 149, 3) := by decide +kernel
theorem dX5_toMove_15 : decode cX5_toMove 15 = .ok (.istore_n 3, 1) := by decide +kernel
theorem dX5_toMove_16 : decode cX5_toMove 16 = .ok (.iload_n 3, 1) := by decide +kernel
theorem dX5_toMove_17 : decode cX5_toMove 17 = .ok (.bipush (-9), 2) := by decide +kernel
theorem dX5_toMove_19 : decode cX5_toMove 19 = .ok (.if_icmp .eq 7, 3) := by decide +kernel
theorem dX5_toMove_22 : decode cX5_toMove 22 = .ok (.iload_n 2, 1) := by decide +kernel
theorem dX5_toMove_23 : decode cX5_toMove 23 = .ok (.ifCond .eq 7, 3) := by decide +kernel
theorem dX5_toMove_26 : decode cX5_toMove 26 = .ok (.iload_n 3, 1) := by decide +kernel
theorem dX5_toMove_27 : decode cX5_toMove 27 = .ok (.goto 7, 3) := by decide +kernel
theorem dX5_toMove_30 : decode cX5_toMove 30 = .ok (.iload_n 3, 1) := by decide +kernel
theorem dX5_toMove_31 : decode cX5_toMove 31 = .ok (.invokestatic 152, 3) := by decide +kernel
theorem dX5_toMove_34 : decode cX5_toMove 34 = .ok (.ireturn, 1) := by decide +kernel
set_option maxRecDepth 20000 in
theorem ggX5_judge_X2_copyFrom : GoodIn wsX5_judge wsX2_copyFrom := goodIn_r _ [8, 9, 10, 11, 12, 13, 82, 83, 84, 85, 86, 87] (by decide +kernel) (by decide +kernel)
set_option maxRecDepth 20000 in
theorem gX5_judge_X2_copyFrom : GoodIn wsX5_judge (wsV RX5 131 RX2 yX2_copyFrom wsX2_copyFrom) := goodIn_app (goodIn_of _ (by decide +kernel)) ggX5_judge_X2_copyFrom
set_option maxRecDepth 20000 in
theorem ggX5_judge_X2_canDo : GoodIn wsX5_judge wsX2_canDo := goodIn_r _ [17, 12, 13, 18, 19, 20, 7, 21, 10, 82, 83, 84, 85, 86, 87] (by decide +kernel) (by decide +kernel)
set_option maxRecDepth 20000 in
theorem gX5_judge_X2_canDo : GoodIn wsX5_judge (wsV RX5 158 RX2 yX2_canDo wsX2_canDo) := goodIn_app (goodIn_of _ (by decide +kernel)) ggX5_judge_X2_canDo
set_option maxRecDepth 20000 in
theorem ggX5_judge_X2_carryOut : GoodIn wsX5_judge wsX2_carryOut := goodIn_r _ [25, 12, 26, 27, 28, 29, 13, 10, 11, 9, 30, 31, 32, 7, 33, 34, 35, 36, 37, 38, 39, 40, 41, 42, 43, 44, 45, 46, 47, 48, 49, 50, 51, 52, 53, 54, 55, 56, 57, 58, 18, 19, 20, 21, 59, 60, 61, 62, 63, 64, 65, 66, 67, 68, 69, 70, 71, 82, 83, 84, 85, 86, 87, 88, 89, 90, 91, 92, 93] (by decide +kernel) (by decide +kernel)
set_option maxRecDepth 20000 in
theorem gX5_judge_X2_carryOut : GoodIn wsX5_judge (wsV RX5 162 RX2 yX2_carryOut wsX2_carryOut) := goodIn_app (goodIn_of _ (by decide +kernel)) ggX5_judge_X2_carryOut
theorem dX5_judge_0 : decode cX5_judge 0 = .ok (.iload_n 1, 1) := by decide +kernel
theorem dX5_judge_1 : decode cX5_judge 1 = .ok (.iconst 1, 1) := by decide +kernel
theorem dX5_judge_2 : decode cX5_judge 2 = .ok (.if_icmp .lt 21, 3) := by decide +kernel
theorem dX5_judge_5 : decode cX5_judge 5 = .ok (.iload_n 1, 1) := by decide +kernel
theorem dX5_judge_6 : decode cX5_judge 6 = .ok (.iconst 4, 1) := by decide +kernel
theorem dX5_judge_7 : decode cX5_judge 7 = .ok (.if_icmp .gt 16, 3) := by decide +kernel
theorem dX5_judge_10 : decode cX5_judge 10 = .ok (.iload_n 2, 1) := by decide +kernel
theorem dX5_judge_11 : decode cX5_judge 11 = .ok (.ifCond .lt 12, 3) := by decide +kernel
theorem dX5_judge_14 : decode cX5_judge 14 = .ok (.iload_n 2, 1) := by decide +kernel
theorem dX5_judge_15 : decode cX5_judge 15 = .ok (.getstatic 155, 3) := by decide +kernel
theorem dX5_judge_18 : decode cX5_judge 18 = .ok (.iload_n 1, 1) := by decide +kernel
theorem dX5_judge_19 : decode cX5_judge 19 = .ok (.iaload, 1) := by decide +kernel
theorem dX5_judge_20 : decode cX5_judge 20 = .ok (.if_icmp .lt 6, 3) := by decide +kernel
theorem dX5_judge_23 : decode cX5_judge 23 = .ok (.bipush (-2), 2) := by decide +kernel
theorem dX5_judge_25 : decode cX5_judge 25 = .ok (.ireturn, 1) := by decide +kernel
theorem dX5_judge_26 : decode cX5_judge 26 = .ok (.aload_n 0, 1) := by decide +kernel
theorem dX5_judge_27 : decode cX5_judge 27 = .ok (.getfield 35, 3) := by decide +kernel
theorem dX5_judge_30 : decode cX5_judge 30 = .ok (.aload_n 0, 1) := by decide +kernel
theorem dX5_judge_31 : decode cX5_judge 31 = .ok (.getfield 31, 3) := by decide +kernel
theorem dX5_judge_34 : decode cX5_judge 34 = .ok (.invokevirtual 131, 3) := by decide +kernel
theorem dX5_judge_37 : decode cX5_judge 37 = .ok (.iconst 0, 1) := by decide +kernel
theorem dX5_judge_38 : decode cX5_judge 38 = .ok (.istore_n 3, 1) := by decide +kernel
theorem dX5_judge_39 : decode cX5_judge 39 = .ok (.iload_n 3, 1) := by decide +kernel
theorem dX5_judge_40 : decode cX5_judge 40 = .ok (.iload_n 1, 1) := by decide +kernel
theorem dX5_judge_41 : decode cX5_judge 41 = .ok (.if_icmp .ge 66, 3) := by decide +kernel
theorem dX5_judge_44 : decode cX5_judge 44 = .ok (.iload_n 2, 1) := by decide +kernel
theorem dX5_judge_45 : decode cX5_judge 45 = .ok (.getstatic 155, 3) := by decide +kernel
theorem dX5_judge_48 : decode cX5_judge 48 = .ok (.iload_n 1, 1) := by decide +kernel
theorem dX5_judge_49 : decode cX5_judge 49 = .ok (.iconst 1, 1) := by decide +kernel
theorem dX5_judge_50 : decode cX5_judge 50 = .ok (.isub, 1) := by decide +kernel
theorem dX5_judge_51 : decode cX5_judge 51 = .ok (.iload_n 3, 1) := by decide +kernel
theorem dX5_judge_52 : decode cX5_judge 52 = .ok (.isub, 1) := by decide +kernel
theorem dX5_judge_53 : decode cX5_judge 53 = .ok (.iaload, 1) := by decide +kernel
theorem dX5_judge_54 : decode cX5_judge 54 = .ok (.idiv, 1) := by decide +kernel
theorem dX5_judge_55 : decode cX5_judge 55 = .ok (.bipush 100, 2) := by decide +kernel
theorem dX5_judge_57 : decode cX5_judge 57 = .ok (.irem, 1) := by decide +kernel
theorem dX5_judge_58 : decode cX5_judge 58 = .ok (.istore 4, 2) := by decide +kernel
theorem dX5_judge_60 : decode cX5_judge 60 = .ok (.iload 4, 2) := by decide +kernel
theorem dX5_judge_62 : decode cX5_judge 62 = .ok (.bipush 10, 2) := by decide +kernel
theorem dX5_judge_64 : decode cX5_judge 64 = .ok (.idiv, 1) := by decide +kernel
theorem dX5_judge_65 : decode cX5_judge 65 = .ok (.istore 5, 2) := by decide +kernel
theorem dX5_judge_67 : decode cX5_judge 67 = .ok (.iload 4, 2) := by decide +kernel
theorem dX5_judge_69 : decode cX5_judge 69 = .ok (.bipush 10, 2) := by decide +kernel
theorem dX5_judge_71 : decode cX5_judge 71 = .ok (.irem, 1) := by decide +kernel
theorem dX5_judge_72 : decode cX5_judge 72 = .ok (.istore 6, 2) := by decide +kernel
theorem dX5_judge_74 : decode cX5_judge 74 = .ok (.aload_n 0, 1) := by decide +kernel
theorem dX5_judge_75 : decode cX5_judge 75 = .ok (.getfield 35, 3) := by decide +kernel
theorem dX5_judge_78 : decode cX5_judge 78 = .ok (.iload 5, 2) := by decide +kernel
theorem dX5_judge_80 : decode cX5_judge 80 = .ok (.iload 6, 2) := by decide +kernel
theorem dX5_judge_82 : decode cX5_judge 82 = .ok (.invokevirtual 158, 3) := by decide +kernel
theorem dX5_judge_85 : decode cX5_judge 85 = .ok (.ifCond .ne 5, 3) := by decide +kernel
theorem dX5_judge_88 : decode cX5_judge 88 = .ok (.iload_n 3, 1) := by decide +kernel
theorem dX5_judge_89 : decode cX5_judge 89 = .ok (.ireturn, 1) := by decide +kernel
theorem dX5_judge_90 : decode cX5_judge 90 = .ok (.aload_n 0, 1) := by decide +kernel
theorem dX5_judge_91 : decode cX5_judge 91 = .ok (.getfield 35, 3) := by decide +kernel
theorem dX5_judge_94 : decode cX5_judge 94 = .ok (.iload 5, 2) := by decide +kernel
theorem dX5_judge_96 : decode cX5_judge 96 = .ok (.iload 6, 2) := by decide +kernel
theorem dX5_judge_98 : decode cX5_judge 98 = .ok (.invokevirtual 162, 3) := by decide +kernel
theorem dX5_judge_101 : decode cX5_judge 101 = .ok (.iinc 3 1, 3) := by decide +kernel
theorem dX5_judge_104 : decode cX5_judge 104 = .ok (.goto (-65), 3) := by decide +kernel
theorem dX5_judge_107 : decode cX5_judge 107 = .ok (.bipush (-9), 2) := by decide +kernel
theorem dX5_judge_109 : decode cX5_judge 109 = .ok (.ireturn, 1) := by decide +kernel
set_option maxRecDepth 20000 in
theorem ggX5_see_X5_isJuror : GoodIn wsX5_see wsX5_isJuror := goodIn_r _ [7, 8, 9, 22, 23, 24, 25, 26, 27, 28, 29, 30, 31, 36, 37, 38, 39, 40, 41] (by decide +kernel) (by decide +kernel)
set_option maxRecDepth 20000 in
theorem gX5_see_X5_isJuror : GoodIn wsX5_see (wsV RX5 81 RX5 yX5_isJuror wsX5_isJuror) := goodIn_app (goodIn_of _ (by decide +kernel)) ggX5_see_X5_isJuror
set_option maxRecDepth 20000 in
theorem ggX5_see_X5_isSide : GoodIn wsX5_see wsX5_isSide := goodIn_r _ [12] (by decide +kernel) (by decide +kernel)
set_option maxRecDepth 20000 in
theorem gX5_see_X5_isSide : GoodIn wsX5_see (va_wsS RX5 143 yX5_isSide wsX5_isSide) := goodIn_app (goodIn_of _ (by decide +kernel)) ggX5_see_X5_isSide
set_option maxRecDepth 20000 in
theorem ggX5_see_X3_add : GoodIn wsX5_see wsX3_add := goodIn_r _ [17, 18, 19, 20, 21, 32, 33, 34, 35] (by decide +kernel) (by decide +kernel)
set_option maxRecDepth 20000 in
theorem gX5_see_X3_add : GoodIn wsX5_see (wsV RX5 166 RX3 yX3_add wsX3_add) := goodIn_app (goodIn_of _ (by decide +kernel)) ggX5_see_X3_add
theorem dX5_see_0 : decode cX5_see 0 = .ok (.aload_n 0, 1) := by decide +kernel
theorem dX5_see_1 : decode cX5_see 1 = .ok (.iload_n 1, 1) := by decide +kernel
theorem dX5_see_2 : decode cX5_see 2 = .ok (.invokevirtual 81, 3) := by decide +kernel
theorem dX5_see_5 : decode cX5_see 5 = .ok (.ifCond .ne 5, 3) := by decide +kernel
theorem dX5_see_8 : decode cX5_see 8 = .ok (.iconst (-1), 1) := by decide +kernel
theorem dX5_see_9 : decode cX5_see 9 = .ok (.ireturn, 1) := by decide +kernel
theorem dX5_see_10 : decode cX5_see 10 = .ok (.iload_n 2, 1) := by decide +kernel
theorem dX5_see_11 : decode cX5_see 11 = .ok (.ifCond .lt 16, 3) := by decide +kernel
theorem dX5_see_14 : decode cX5_see 14 = .ok (.iload_n 2, 1) := by decide +kernel
theorem dX5_see_15 : decode cX5_see 15 = .ok (.bipush 9, 2) := by decide +kernel
theorem dX5_see_17 : decode cX5_see 17 = .ok (.if_icmp .gt 10, 3) := by decide +kernel
theorem dX5_see_20 : decode cX5_see 20 = .ok (.iload_n 3, 1) := by decide +kernel
theorem dX5_see_21 : decode cX5_see 21 = .ok (.invokestatic 143, 3) := by decide +kernel
theorem dX5_see_24 : decode cX5_see 24 = .ok (.ifCond .ne 6, 3) := by decide +kernel
theorem dX5_see_27 : decode cX5_see 27 = .ok (.bipush (-2), 2) := by decide +kernel
theorem dX5_see_29 : decode cX5_see 29 = .ok (.ireturn, 1) := by decide +kernel
theorem dX5_see_30 : decode cX5_see 30 = .ok (.aload_n 0, 1) := by decide +kernel
theorem dX5_see_31 : decode cX5_see 31 = .ok (.getfield 56, 3) := by decide +kernel
theorem dX5_see_34 : decode cX5_see 34 = .ok (.iload_n 1, 1) := by decide +kernel
theorem dX5_see_35 : decode cX5_see 35 = .ok (.iload_n 2, 1) := by decide +kernel
theorem dX5_see_36 : decode cX5_see 36 = .ok (.iload_n 3, 1) := by decide +kernel
theorem dX5_see_37 : decode cX5_see 37 = .ok (.invokevirtual 166, 3) := by decide +kernel
theorem dX5_see_40 : decode cX5_see 40 = .ok (.ifCond .eq 13, 3) := by decide +kernel
theorem dX5_see_43 : decode cX5_see 43 = .ok (.aload_n 0, 1) := by decide +kernel
theorem dX5_see_44 : decode cX5_see 44 = .ok (.getfield 56, 3) := by decide +kernel
theorem dX5_see_47 : decode cX5_see 47 = .ok (.getfield 169, 3) := by decide +kernel
theorem dX5_see_50 : decode cX5_see 50 = .ok (.goto 5, 3) := by decide +kernel
theorem dX5_see_53 : decode cX5_see 53 = .ok (.bipush (-4), 2) := by decide +kernel
theorem dX5_see_55 : decode cX5_see 55 = .ok (.ireturn, 1) := by decide +kernel
theorem dX5_unsee_0 : decode cX5_unsee 0 = .ok (.aload_n 0, 1) := by decide +kernel
theorem dX5_unsee_1 : decode cX5_unsee 1 = .ok (.getfield 56, 3) := by decide +kernel
theorem dX5_unsee_4 : decode cX5_unsee 4 = .ok (.getfield 169, 3) := by decide +kernel
theorem dX5_unsee_7 : decode cX5_unsee 7 = .ok (.istore_n 1, 1) := by decide +kernel
theorem dX5_unsee_8 : decode cX5_unsee 8 = .ok (.aload_n 0, 1) := by decide +kernel
theorem dX5_unsee_9 : decode cX5_unsee 9 = .ok (.getfield 56, 3) := by decide +kernel
theorem dX5_unsee_12 : decode cX5_unsee 12 = .ok (.iconst 0, 1) := by decide +kernel
theorem dX5_unsee_13 : decode cX5_unsee 13 = .ok (.putfield 169, 3) := by decide +kernel
theorem dX5_unsee_16 : decode cX5_unsee 16 = .ok (.iload_n 1, 1) := by decide +kernel
theorem dX5_unsee_17 : decode cX5_unsee 17 = .ok (.ireturn, 1) := by decide +kernel
set_option maxRecDepth 20000 in
theorem ggX5_first_X5_fitsWhatIsSeen : GoodIn wsX5_first wsX5_fitsWhatIsSeen := goodIn_r _ [7, 8, 1, 9, 10, 11, 12, 13, 14, 15, 16, 17, 18, 19, 20, 21, 22, 23, 24, 25, 26, 27, 28, 29, 30, 31, 32, 33, 34, 35, 36, 37, 38, 39, 40, 41, 42, 43, 44, 45, 46, 47, 48, 49, 50, 51, 52, 53, 54, 55, 56, 57, 58, 59, 60, 61, 62, 63, 64, 65, 66, 67, 68, 69, 70, 71, 72, 73, 74, 75, 76, 77, 78, 79, 80, 81, 82, 83, 84, 85, 86, 87, 88, 89, 90, 91, 92, 93, 94, 95, 96, 97, 98, 99, 100, 101, 102, 103, 104] (by decide +kernel) (by decide +kernel)
set_option maxRecDepth 20000 in
theorem gX5_first_X5_fitsWhatIsSeen : GoodIn wsX5_first (wsV RX5 170 RX5 yX5_fitsWhatIsSeen wsX5_fitsWhatIsSeen) := goodIn_app (goodIn_of _ (by decide +kernel)) ggX5_first_X5_fitsWhatIsSeen
theorem dX5_first_0 : decode cX5_first 0 = .ok (.iload_n 1, 1) := by decide +kernel
theorem dX5_first_1 : decode cX5_first 1 = .ok (.ifCond .lt 8, 3) := by decide +kernel
theorem dX5_first_4 : decode cX5_first 4 = .ok (.iload_n 1, 1) := by decide +kernel
theorem dX5_first_5 : decode cX5_first 5 = .ok (.iconst 2, 1) := by decide +kernel
theorem dX5_first_6 : decode cX5_first 6 = .ok (.if_icmp .le 6, 3) := by decide +kernel
theorem dX5_first_9 : decode cX5_first 9 = .ok (.bipush (-2), 2) := by decide +kernel
theorem dX5_first_11 : decode cX5_first 11 = .ok (.ireturn, 1) := by decide +kernel
theorem dX5_first_12 : decode cX5_first 12 = .ok (.iconst 0, 1) := by decide +kernel
theorem dX5_first_13 : decode cX5_first 13 = .ok (.istore_n 2, 1) := by decide +kernel
theorem dX5_first_14 : decode cX5_first 14 = .ok (.aload_n 0, 1) := by decide +kernel
theorem dX5_first_15 : decode cX5_first 15 = .ok (.getfield 31, 3) := by decide +kernel
theorem dX5_first_18 : decode cX5_first 18 = .ok (.getfield 121, 3) := by decide +kernel
theorem dX5_first_21 : decode cX5_first 21 = .ok (.istore_n 3, 1) := by decide +kernel
theorem dX5_first_22 : decode cX5_first 22 = .ok (.iconst 0, 1) := by decide +kernel
theorem dX5_first_23 : decode cX5_first 23 = .ok (.istore 4, 2) := by decide +kernel
theorem dX5_first_25 : decode cX5_first 25 = .ok (.iconst 0, 1) := by decide +kernel
theorem dX5_first_26 : decode cX5_first 26 = .ok (.istore 5, 2) := by decide +kernel
theorem dX5_first_28 : decode cX5_first 28 = .ok (.iload 5, 2) := by decide +kernel
theorem dX5_first_30 : decode cX5_first 30 = .ok (.bipush 64, 2) := by decide +kernel
theorem dX5_first_32 : decode cX5_first 32 = .ok (.if_icmp .ge 48, 3) := by decide +kernel
theorem dX5_first_35 : decode cX5_first 35 = .ok (.iload 5, 2) := by decide +kernel
theorem dX5_first_37 : decode cX5_first 37 = .ok (.aload_n 0, 1) := by decide +kernel
theorem dX5_first_38 : decode cX5_first 38 = .ok (.getfield 31, 3) := by decide +kernel
theorem dX5_first_41 : decode cX5_first 41 = .ok (.getfield 121, 3) := by decide +kernel
theorem dX5_first_44 : decode cX5_first 44 = .ok (.iconst (-1), 1) := by decide +kernel
theorem dX5_first_45 : decode cX5_first 45 = .ok (.ixor, 1) := by decide +kernel
theorem dX5_first_46 : decode cX5_first 46 = .ok (.iand, 1) := by decide +kernel
theorem dX5_first_47 : decode cX5_first 47 = .ok (.ifCond .ne 27, 3) := by decide +kernel
theorem dX5_first_50 : decode cX5_first 50 = .ok (.aload_n 0, 1) := by decide +kernel
theorem dX5_first_51 : decode cX5_first 51 = .ok (.iload 5, 2) := by decide +kernel
theorem dX5_first_53 : decode cX5_first 53 = .ok (.invokevirtual 170, 3) := by decide +kernel
theorem dX5_first_56 : decode cX5_first 56 = .ok (.ifCond .eq 18, 3) := by decide +kernel
theorem dX5_first_59 : decode cX5_first 59 = .ok (.iinc 2 1, 3) := by decide +kernel
theorem dX5_first_62 : decode cX5_first 62 = .ok (.iload_n 3, 1) := by decide +kernel
theorem dX5_first_63 : decode cX5_first 63 = .ok (.iload 5, 2) := by decide +kernel
theorem dX5_first_65 : decode cX5_first 65 = .ok (.iand, 1) := by decide +kernel
theorem dX5_first_66 : decode cX5_first 66 = .ok (.istore_n 3, 1) := by decide +kernel
theorem dX5_first_67 : decode cX5_first 67 = .ok (.iload 4, 2) := by decide +kernel
theorem dX5_first_69 : decode cX5_first 69 = .ok (.iload 5, 2) := by decide +kernel
theorem dX5_first_71 : decode cX5_first 71 = .ok (.ior, 1) := by decide +kernel
theorem dX5_first_72 : decode cX5_first 72 = .ok (.istore 4, 2) := by decide +kernel
theorem dX5_first_74 : decode cX5_first 74 = .ok (.iinc 5 1, 3) := by decide +kernel
theorem dX5_first_77 : decode cX5_first 77 = .ok (.goto (-49), 3) := by decide +kernel
theorem dX5_first_80 : decode cX5_first 80 = .ok (.iload_n 1, 1) := by decide +kernel
theorem dX5_first_81 : decode cX5_first 81 = .ok (.ifCond .ne 5, 3) := by decide +kernel
theorem dX5_first_84 : decode cX5_first 84 = .ok (.iload_n 2, 1) := by decide +kernel
theorem dX5_first_85 : decode cX5_first 85 = .ok (.ireturn, 1) := by decide +kernel
theorem dX5_first_86 : decode cX5_first 86 = .ok (.iload_n 2, 1) := by decide +kernel
theorem dX5_first_87 : decode cX5_first 87 = .ok (.ifCond .ne 6, 3) := by decide +kernel
theorem dX5_first_90 : decode cX5_first 90 = .ok (.bipush (-9), 2) := by decide +kernel
theorem dX5_first_92 : decode cX5_first 92 = .ok (.ireturn, 1) := by decide +kernel
theorem dX5_first_93 : decode cX5_first 93 = .ok (.iload_n 1, 1) := by decide +kernel
theorem dX5_first_94 : decode cX5_first 94 = .ok (.iconst 1, 1) := by decide +kernel
theorem dX5_first_95 : decode cX5_first 95 = .ok (.if_icmp .ne 7, 3) := by decide +kernel
theorem dX5_first_98 : decode cX5_first 98 = .ok (.iload_n 3, 1) := by decide +kernel
theorem dX5_first_99 : decode cX5_first 99 = .ok (.goto 15, 3) := by decide +kernel
theorem dX5_first_102 : decode cX5_first 102 = .ok (.aload_n 0, 1) := by decide +kernel
theorem dX5_first_103 : decode cX5_first 103 = .ok (.getfield 31, 3) := by decide +kernel
theorem dX5_first_106 : decode cX5_first 106 = .ok (.getfield 121, 3) := by decide +kernel
theorem dX5_first_109 : decode cX5_first 109 = .ok (.iload 4, 2) := by decide +kernel
theorem dX5_first_111 : decode cX5_first 111 = .ok (.iconst (-1), 1) := by decide +kernel
theorem dX5_first_112 : decode cX5_first 112 = .ok (.ixor, 1) := by decide +kernel
theorem dX5_first_113 : decode cX5_first 113 = .ok (.iand, 1) := by decide +kernel
theorem dX5_first_114 : decode cX5_first 114 = .ok (.ireturn, 1) := by decide +kernel
set_option maxRecDepth 20000 in
theorem ggX5_share_X5_isJuror : GoodIn wsX5_share wsX5_isJuror := goodIn_r _ [7, 8, 9, 96, 97, 98, 99, 100, 101, 102, 103, 104, 105, 112, 113, 114, 115, 116, 117] (by decide +kernel) (by decide +kernel)
set_option maxRecDepth 20000 in
theorem gX5_share_X5_isJuror : GoodIn wsX5_share (wsV RX5 81 RX5 yX5_isJuror wsX5_isJuror) := goodIn_app (goodIn_of _ (by decide +kernel)) ggX5_share_X5_isJuror
set_option maxRecDepth 20000 in
theorem ggX5_share_X2_isThere : GoodIn wsX5_share wsX2_isThere := goodIn_r _ [14, 15, 106, 107, 108, 109, 110, 111] (by decide +kernel) (by decide +kernel)
set_option maxRecDepth 20000 in
theorem gX5_share_X2_isThere : GoodIn wsX5_share (wsV RX5 100 RX2 yX2_isThere wsX2_isThere) := goodIn_app (goodIn_of _ (by decide +kernel)) ggX5_share_X2_isThere
set_option maxRecDepth 20000 in
theorem ggX5_share_X5_partOfFraction : GoodIn wsX5_share wsX5_partOfFraction := goodIn_r _ [18, 19, 20, 21, 22, 23, 24, 6, 25] (by decide +kernel) (by decide +kernel)
set_option maxRecDepth 20000 in
theorem gX5_share_X5_partOfFraction : GoodIn wsX5_share (va_wsS RX5 173 yX5_partOfFraction wsX5_partOfFraction) := goodIn_app (goodIn_of _ (by decide +kernel)) ggX5_share_X5_partOfFraction
set_option maxRecDepth 20000 in
theorem ggX5_share_X5_endIsYesFrom : GoodIn wsX5_share wsX5_endIsYesFrom := goodIn_r _ [29, 30, 1, 31, 32, 33, 34, 13, 35, 36, 15, 37, 38, 39, 40, 41, 42, 43, 44, 45, 46, 47, 48, 49, 50, 51, 52, 53, 54, 55, 56, 57, 58, 59, 60, 61, 62, 63, 64, 65, 66, 67, 68, 69, 70, 71, 21, 72, 73, 11, 12, 14, 74, 75, 76, 77, 78, 79, 80, 81, 82, 83, 84, 85, 86, 87, 96, 97, 98, 99, 100, 101, 102, 103, 104, 105, 106, 107, 108, 109, 110, 111, 112, 113, 114, 115, 116, 117] (by decide +kernel) (by decide +kernel)
set_option maxRecDepth 20000 in
theorem gX5_share_X5_endIsYesFrom : GoodIn wsX5_share (wsV RX5 177 RX5 yX5_endIsYesFrom wsX5_endIsYesFrom) := goodIn_app (goodIn_of _ (by decide +kernel)) ggX5_share_X5_endIsYesFrom
set_option maxRecDepth 20000 in
theorem ggX5_share_J6_bitCount_0f7a4 : GoodIn wsX5_share wsJ6_bitCount_0f7a4 := goodIn_r _ [51, 52, 53, 54] (by decide +kernel) (by decide +kernel)
set_option maxRecDepth 20000 in
theorem gX5_share_J6_bitCount_0f7a4 : GoodIn wsX5_share (va_wsS RX5 111 yJ6_bitCount_0f7a4 wsJ6_bitCount_0f7a4) := goodIn_app (goodIn_of _ (by decide +kernel)) ggX5_share_J6_bitCount_0f7a4
set_option maxRecDepth 20000 in
theorem ggX5_share_X5_ordersWith : GoodIn wsX5_share wsX5_ordersWith := goodIn_r _ [91, 92, 93, 6, 94, 95] (by decide +kernel) (by decide +kernel)
set_option maxRecDepth 20000 in
theorem gX5_share_X5_ordersWith : GoodIn wsX5_share (va_wsS RX5 180 yX5_ordersWith wsX5_ordersWith) := goodIn_app (goodIn_of _ (by decide +kernel)) ggX5_share_X5_ordersWith
set_option maxRecDepth 20000 in
theorem ggX5_share_X5_factorial : GoodIn wsX5_share wsX5_factorial := goodIn_r _ [94, 95] (by decide +kernel) (by decide +kernel)
set_option maxRecDepth 20000 in
theorem gX5_share_X5_factorial : GoodIn wsX5_share (va_wsS RX5 183 yX5_factorial wsX5_factorial) := goodIn_app (goodIn_of _ (by decide +kernel)) ggX5_share_X5_factorial
theorem dX5_share_0 : decode cX5_share 0 = .ok (.aload_n 0, 1) := by decide +kernel
theorem dX5_share_1 : decode cX5_share 1 = .ok (.iload_n 1, 1) := by decide +kernel
theorem dX5_share_2 : decode cX5_share 2 = .ok (.invokevirtual 81, 3) := by decide +kernel
theorem dX5_share_5 : decode cX5_share 5 = .ok (.ifCond .ne 5, 3) := by decide +kernel
theorem dX5_share_8 : decode cX5_share 8 = .ok (.iconst (-1), 1) := by decide +kernel
theorem dX5_share_9 : decode cX5_share 9 = .ok (.ireturn, 1) := by decide +kernel
theorem dX5_share_10 : decode cX5_share 10 = .ok (.aload_n 0, 1) := by decide +kernel
theorem dX5_share_11 : decode cX5_share 11 = .ok (.getfield 31, 3) := by decide +kernel
theorem dX5_share_14 : decode cX5_share 14 = .ok (.iload_n 1, 1) := by decide +kernel
theorem dX5_share_15 : decode cX5_share 15 = .ok (.invokevirtual 100, 3) := by decide +kernel
theorem dX5_share_18 : decode cX5_share 18 = .ok (.ifCond .ne 10, 3) := by decide +kernel
theorem dX5_share_21 : decode cX5_share 21 = .ok (.iconst 0, 1) := by decide +kernel
theorem dX5_share_22 : decode cX5_share 22 = .ok (.iconst 1, 1) := by decide +kernel
theorem dX5_share_23 : decode cX5_share 23 = .ok (.iload_n 2, 1) := by decide +kernel
theorem dX5_share_24 : decode cX5_share 24 = .ok (.invokestatic 173, 3) := by decide +kernel
theorem dX5_share_27 : decode cX5_share 27 = .ok (.ireturn, 1) := by decide +kernel
theorem dX5_share_28 : decode cX5_share 28 = .ok (.aload_n 0, 1) := by decide +kernel
theorem dX5_share_29 : decode cX5_share 29 = .ok (.getfield 31, 3) := by decide +kernel
theorem dX5_share_32 : decode cX5_share 32 = .ok (.getfield 121, 3) := by decide +kernel
theorem dX5_share_35 : decode cX5_share 35 = .ok (.iconst 1, 1) := by decide +kernel
theorem dX5_share_36 : decode cX5_share 36 = .ok (.iload_n 1, 1) := by decide +kernel
theorem dX5_share_37 : decode cX5_share 37 = .ok (.ishl, 1) := by decide +kernel
theorem dX5_share_38 : decode cX5_share 38 = .ok (.iconst (-1), 1) := by decide +kernel
theorem dX5_share_39 : decode cX5_share 39 = .ok (.ixor, 1) := by decide +kernel
theorem dX5_share_40 : decode cX5_share 40 = .ok (.iand, 1) := by decide +kernel
theorem dX5_share_41 : decode cX5_share 41 = .ok (.istore_n 3, 1) := by decide +kernel
theorem dX5_share_42 : decode cX5_share 42 = .ok (.iconst 0, 1) := by decide +kernel
theorem dX5_share_43 : decode cX5_share 43 = .ok (.istore 4, 2) := by decide +kernel
theorem dX5_share_45 : decode cX5_share 45 = .ok (.iconst 0, 1) := by decide +kernel
theorem dX5_share_46 : decode cX5_share 46 = .ok (.istore 5, 2) := by decide +kernel
theorem dX5_share_48 : decode cX5_share 48 = .ok (.iload 5, 2) := by decide +kernel
theorem dX5_share_50 : decode cX5_share 50 = .ok (.bipush 64, 2) := by decide +kernel
theorem dX5_share_52 : decode cX5_share 52 = .ok (.if_icmp .ge 62, 3) := by decide +kernel
theorem dX5_share_55 : decode cX5_share 55 = .ok (.iload 5, 2) := by decide +kernel
theorem dX5_share_57 : decode cX5_share 57 = .ok (.iload_n 3, 1) := by decide +kernel
theorem dX5_share_58 : decode cX5_share 58 = .ok (.iconst (-1), 1) := by decide +kernel
theorem dX5_share_59 : decode cX5_share 59 = .ok (.ixor, 1) := by decide +kernel
theorem dX5_share_60 : decode cX5_share 60 = .ok (.iand, 1) := by decide +kernel
theorem dX5_share_61 : decode cX5_share 61 = .ok (.ifCond .ne 47, 3) := by decide +kernel
theorem dX5_share_64 : decode cX5_share 64 = .ok (.aload_n 0, 1) := by decide +kernel
theorem dX5_share_65 : decode cX5_share 65 = .ok (.iload 5, 2) := by decide +kernel
theorem dX5_share_67 : decode cX5_share 67 = .ok (.iconst 1, 1) := by decide +kernel
theorem dX5_share_68 : decode cX5_share 68 = .ok (.iload_n 1, 1) := by decide +kernel
theorem dX5_share_69 : decode cX5_share 69 = .ok (.ishl, 1) := by decide +kernel
theorem dX5_share_70 : decode cX5_share 70 = .ok (.ior, 1) := by decide +kernel
theorem dX5_share_71 : decode cX5_share 71 = .ok (.invokevirtual 177, 3) := by decide +kernel
theorem dX5_share_74 : decode cX5_share 74 = .ok (.aload_n 0, 1) := by decide +kernel
theorem dX5_share_75 : decode cX5_share 75 = .ok (.iload 5, 2) := by decide +kernel
theorem dX5_share_77 : decode cX5_share 77 = .ok (.invokevirtual 177, 3) := by decide +kernel
theorem dX5_share_80 : decode cX5_share 80 = .ok (.isub, 1) := by decide +kernel
theorem dX5_share_81 : decode cX5_share 81 = .ok (.istore 6, 2) := by decide +kernel
theorem dX5_share_83 : decode cX5_share 83 = .ok (.iload 4, 2) := by decide +kernel
theorem dX5_share_85 : decode cX5_share 85 = .ok (.iload 6, 2) := by decide +kernel
theorem dX5_share_87 : decode cX5_share 87 = .ok (.iload 5, 2) := by decide +kernel
theorem dX5_share_89 : decode cX5_share 89 = .ok (.invokestatic 111, 3) := by decide +kernel
theorem dX5_share_92 : decode cX5_share 92 = .ok (.iload_n 3, 1) := by decide +kernel
theorem dX5_share_93 : decode cX5_share 93 = .ok (.iload 5, 2) := by decide +kernel
theorem dX5_share_95 : decode cX5_share 95 = .ok (.iconst (-1), 1) := by decide +kernel
theorem dX5_share_96 : decode cX5_share 96 = .ok (.ixor, 1) := by decide +kernel
theorem dX5_share_97 : decode cX5_share 97 = .ok (.iand, 1) := by decide +kernel
theorem dX5_share_98 : decode cX5_share 98 = .ok (.invokestatic 111, 3) := by decide +kernel
theorem dX5_share_101 : decode cX5_share 101 = .ok (.invokestatic 180, 3) := by decide +kernel
theorem dX5_share_104 : decode cX5_share 104 = .ok (.imul, 1) := by decide +kernel
theorem dX5_share_105 : decode cX5_share 105 = .ok (.iadd, 1) := by decide +kernel
theorem dX5_share_106 : decode cX5_share 106 = .ok (.istore 4, 2) := by decide +kernel
theorem dX5_share_108 : decode cX5_share 108 = .ok (.iinc 5 1, 3) := by decide +kernel
theorem dX5_share_111 : decode cX5_share 111 = .ok (.goto (-63), 3) := by decide +kernel
theorem dX5_share_114 : decode cX5_share 114 = .ok (.iload 4, 2) := by decide +kernel
theorem dX5_share_116 : decode cX5_share 116 = .ok (.aload_n 0, 1) := by decide +kernel
theorem dX5_share_117 : decode cX5_share 117 = .ok (.getfield 31, 3) := by decide +kernel
theorem dX5_share_120 : decode cX5_share 120 = .ok (.getfield 121, 3) := by decide +kernel
theorem dX5_share_123 : decode cX5_share 123 = .ok (.invokestatic 111, 3) := by decide +kernel
theorem dX5_share_126 : decode cX5_share 126 = .ok (.invokestatic 183, 3) := by decide +kernel
theorem dX5_share_129 : decode cX5_share 129 = .ok (.iload_n 2, 1) := by decide +kernel
theorem dX5_share_130 : decode cX5_share 130 = .ok (.invokestatic 173, 3) := by decide +kernel
theorem dX5_share_133 : decode cX5_share 133 = .ok (.ireturn, 1) := by decide +kernel
set_option maxRecDepth 20000 in
theorem ggX5_rests_X5_isJuror : GoodIn wsX5_rests wsX5_isJuror := goodIn_r _ [5, 6, 7, 21, 22, 23, 24, 25, 26, 27, 28, 29, 30, 31, 32, 33, 34, 35, 36] (by decide +kernel) (by decide +kernel)
set_option maxRecDepth 20000 in
theorem gX5_rests_X5_isJuror : GoodIn wsX5_rests (wsV RX5 81 RX5 yX5_isJuror wsX5_isJuror) := goodIn_app (goodIn_of _ (by decide +kernel)) ggX5_rests_X5_isJuror
set_option maxRecDepth 20000 in
theorem ggX5_rests_X5_isBestWait : GoodIn wsX5_rests wsX5_isBestWait := goodIn_r _ [11, 12, 13, 14, 4, 15, 6, 16, 17, 18, 19, 20, 1, 2, 3, 5, 7, 21, 22, 23, 24, 25, 26, 27, 28, 29, 30, 31, 32, 33, 34, 35, 36] (by decide +kernel) (by decide +kernel)
set_option maxRecDepth 20000 in
theorem gX5_rests_X5_isBestWait : GoodIn wsX5_rests (wsV RX5 186 RX5 yX5_isBestWait wsX5_isBestWait) := goodIn_app (goodIn_of _ (by decide +kernel)) ggX5_rests_X5_isBestWait
theorem dX5_rests_0 : decode cX5_rests 0 = .ok (.aload_n 0, 1) := by decide +kernel
theorem dX5_rests_1 : decode cX5_rests 1 = .ok (.iload_n 1, 1) := by decide +kernel
theorem dX5_rests_2 : decode cX5_rests 2 = .ok (.invokevirtual 81, 3) := by decide +kernel
theorem dX5_rests_5 : decode cX5_rests 5 = .ok (.ifCond .eq 11, 3) := by decide +kernel
theorem dX5_rests_8 : decode cX5_rests 8 = .ok (.aload_n 0, 1) := by decide +kernel
theorem dX5_rests_9 : decode cX5_rests 9 = .ok (.iload_n 2, 1) := by decide +kernel
theorem dX5_rests_10 : decode cX5_rests 10 = .ok (.invokevirtual 81, 3) := by decide +kernel
theorem dX5_rests_13 : decode cX5_rests 13 = .ok (.ifCond .ne 5, 3) := by decide +kernel
theorem dX5_rests_16 : decode cX5_rests 16 = .ok (.iconst (-1), 1) := by decide +kernel
theorem dX5_rests_17 : decode cX5_rests 17 = .ok (.ireturn, 1) := by decide +kernel
theorem dX5_rests_18 : decode cX5_rests 18 = .ok (.iload_n 1, 1) := by decide +kernel
theorem dX5_rests_19 : decode cX5_rests 19 = .ok (.iload_n 2, 1) := by decide +kernel
theorem dX5_rests_20 : decode cX5_rests 20 = .ok (.if_icmp .eq 12, 3) := by decide +kernel
theorem dX5_rests_23 : decode cX5_rests 23 = .ok (.iload_n 3, 1) := by decide +kernel
theorem dX5_rests_24 : decode cX5_rests 24 = .ok (.ifCond .lt 8, 3) := by decide +kernel
theorem dX5_rests_27 : decode cX5_rests 27 = .ok (.iload_n 3, 1) := by decide +kernel
theorem dX5_rests_28 : decode cX5_rests 28 = .ok (.iconst 1, 1) := by decide +kernel
theorem dX5_rests_29 : decode cX5_rests 29 = .ok (.if_icmp .le 6, 3) := by decide +kernel
theorem dX5_rests_32 : decode cX5_rests 32 = .ok (.bipush (-2), 2) := by decide +kernel
theorem dX5_rests_34 : decode cX5_rests 34 = .ok (.ireturn, 1) := by decide +kernel
theorem dX5_rests_35 : decode cX5_rests 35 = .ok (.iconst 0, 1) := by decide +kernel
theorem dX5_rests_36 : decode cX5_rests 36 = .ok (.istore 4, 2) := by decide +kernel
theorem dX5_rests_38 : decode cX5_rests 38 = .ok (.bipush (-9), 2) := by decide +kernel
theorem dX5_rests_40 : decode cX5_rests 40 = .ok (.istore 5, 2) := by decide +kernel
theorem dX5_rests_42 : decode cX5_rests 42 = .ok (.iconst 0, 1) := by decide +kernel
theorem dX5_rests_43 : decode cX5_rests 43 = .ok (.istore 6, 2) := by decide +kernel
theorem dX5_rests_45 : decode cX5_rests 45 = .ok (.iload 6, 2) := by decide +kernel
theorem dX5_rests_47 : decode cX5_rests 47 = .ok (.iconst 4, 1) := by decide +kernel
theorem dX5_rests_48 : decode cX5_rests 48 = .ok (.if_icmp .gt 75, 3) := by decide +kernel
theorem dX5_rests_51 : decode cX5_rests 51 = .ok (.iconst 0, 1) := by decide +kernel
theorem dX5_rests_52 : decode cX5_rests 52 = .ok (.istore 7, 2) := by decide +kernel
theorem dX5_rests_54 : decode cX5_rests 54 = .ok (.iload 7, 2) := by decide +kernel
theorem dX5_rests_56 : decode cX5_rests 56 = .ok (.iconst 4, 1) := by decide +kernel
theorem dX5_rests_57 : decode cX5_rests 57 = .ok (.if_icmp .gt 60, 3) := by decide +kernel
theorem dX5_rests_60 : decode cX5_rests 60 = .ok (.aload_n 0, 1) := by decide +kernel
theorem dX5_rests_61 : decode cX5_rests 61 = .ok (.iload_n 1, 1) := by decide +kernel
theorem dX5_rests_62 : decode cX5_rests 62 = .ok (.iload_n 2, 1) := by decide +kernel
theorem dX5_rests_63 : decode cX5_rests 63 = .ok (.iload 6, 2) := by decide +kernel
theorem dX5_rests_65 : decode cX5_rests 65 = .ok (.iload 7, 2) := by decide +kernel
theorem dX5_rests_67 : decode cX5_rests 67 = .ok (.invokevirtual 186, 3) := by decide +kernel
theorem dX5_rests_70 : decode cX5_rests 70 = .ok (.ifCond .eq 41, 3) := by decide +kernel
theorem dX5_rests_73 : decode cX5_rests 73 = .ok (.aload_n 0, 1) := by decide +kernel
theorem dX5_rests_74 : decode cX5_rests 74 = .ok (.iload_n 2, 1) := by decide +kernel
theorem dX5_rests_75 : decode cX5_rests 75 = .ok (.iload_n 1, 1) := by decide +kernel
theorem dX5_rests_76 : decode cX5_rests 76 = .ok (.iload 7, 2) := by decide +kernel
theorem dX5_rests_78 : decode cX5_rests 78 = .ok (.iload 6, 2) := by decide +kernel
theorem dX5_rests_80 : decode cX5_rests 80 = .ok (.invokevirtual 186, 3) := by decide +kernel
theorem dX5_rests_83 : decode cX5_rests 83 = .ok (.ifCond .eq 28, 3) := by decide +kernel
theorem dX5_rests_86 : decode cX5_rests 86 = .ok (.iinc 4 1, 3) := by decide +kernel
theorem dX5_rests_89 : decode cX5_rests 89 = .ok (.iload 5, 2) := by decide +kernel
theorem dX5_rests_91 : decode cX5_rests 91 = .ok (.bipush (-9), 2) := by decide +kernel
theorem dX5_rests_93 : decode cX5_rests 93 = .ok (.if_icmp .ne 14, 3) := by decide +kernel
theorem dX5_rests_96 : decode cX5_rests 96 = .ok (.bipush 10, 2) := by decide +kernel
theorem dX5_rests_98 : decode cX5_rests 98 = .ok (.iload 6, 2) := by decide +kernel
theorem dX5_rests_100 : decode cX5_rests 100 = .ok (.imul, 1) := by decide +kernel
theorem dX5_rests_101 : decode cX5_rests 101 = .ok (.iload 7, 2) := by decide +kernel
theorem dX5_rests_103 : decode cX5_rests 103 = .ok (.iadd, 1) := by decide +kernel
theorem dX5_rests_104 : decode cX5_rests 104 = .ok (.goto 5, 3) := by decide +kernel
theorem dX5_rests_107 : decode cX5_rests 107 = .ok (.iload 5, 2) := by decide +kernel
theorem dX5_rests_109 : decode cX5_rests 109 = .ok (.istore 5, 2) := by decide +kernel
theorem dX5_rests_111 : decode cX5_rests 111 = .ok (.iinc 7 1, 3) := by decide +kernel
theorem dX5_rests_114 : decode cX5_rests 114 = .ok (.goto (-60), 3) := by decide +kernel
theorem dX5_rests_117 : decode cX5_rests 117 = .ok (.iinc 6 1, 3) := by decide +kernel
theorem dX5_rests_120 : decode cX5_rests 120 = .ok (.goto (-75), 3) := by decide +kernel
theorem dX5_rests_123 : decode cX5_rests 123 = .ok (.iload_n 3, 1) := by decide +kernel
theorem dX5_rests_124 : decode cX5_rests 124 = .ok (.ifCond .ne 8, 3) := by decide +kernel
theorem dX5_rests_127 : decode cX5_rests 127 = .ok (.iload 4, 2) := by decide +kernel
theorem dX5_rests_129 : decode cX5_rests 129 = .ok (.goto 5, 3) := by decide +kernel
theorem dX5_rests_132 : decode cX5_rests 132 = .ok (.iload 5, 2) := by decide +kernel
theorem dX5_rests_134 : decode cX5_rests 134 = .ok (.ireturn, 1) := by decide +kernel
set_option maxRecDepth 20000 in
theorem ggX5_coins_X5_isSide : GoodIn wsX5_coins wsX5_isSide := goodIn_r _ [6] (by decide +kernel) (by decide +kernel)
set_option maxRecDepth 20000 in
theorem gX5_coins_X5_isSide : GoodIn wsX5_coins (va_wsS RX5 143 yX5_isSide wsX5_isSide) := goodIn_app (goodIn_of _ (by decide +kernel)) ggX5_coins_X5_isSide
set_option maxRecDepth 20000 in
theorem ggX5_coins_J6_bitCount_0f7a4 : GoodIn wsX5_coins wsJ6_bitCount_0f7a4 := goodIn_r _ [10, 11, 12, 13] (by decide +kernel) (by decide +kernel)
set_option maxRecDepth 20000 in
theorem gX5_coins_J6_bitCount_0f7a4 : GoodIn wsX5_coins (va_wsS RX5 111 yJ6_bitCount_0f7a4 wsJ6_bitCount_0f7a4) := goodIn_app (goodIn_of _ (by decide +kernel)) ggX5_coins_J6_bitCount_0f7a4
set_option maxRecDepth 20000 in
theorem ggX5_coins_X5_power : GoodIn wsX5_coins wsX5_power := goodIn_r _ [16] (by decide +kernel) (by decide +kernel)
set_option maxRecDepth 20000 in
theorem gX5_coins_X5_power : GoodIn wsX5_coins (va_wsS RX5 190 yX5_power wsX5_power) := goodIn_app (goodIn_of _ (by decide +kernel)) ggX5_coins_X5_power
set_option maxRecDepth 20000 in
theorem ggX5_coins_X5_endAfter : GoodIn wsX5_coins wsX5_endAfter := goodIn_r _ [20, 21, 1, 22, 23, 24, 25, 26, 27, 28, 29, 30, 31, 32, 33, 34, 35, 36, 37, 38, 39, 40, 41, 42, 43, 44, 45, 46, 47, 48, 8, 9, 10, 11, 12, 13, 49, 50, 51, 52, 53, 54, 55, 56, 57, 58, 59, 60, 61, 62, 63, 64, 65, 66, 67, 68, 69, 70, 71, 72, 73, 74, 75, 76, 77, 78, 79, 80, 81, 82, 83, 84, 94, 95, 96, 97, 98, 99, 100, 101, 102, 103, 104, 105, 106, 107, 108, 109, 110, 111, 112, 113, 114, 115] (by decide +kernel) (by decide +kernel)
set_option maxRecDepth 20000 in
theorem gX5_coins_X5_endAfter : GoodIn wsX5_coins (wsV RX5 193 RX5 yX5_endAfter wsX5_endAfter) := goodIn_app (goodIn_of _ (by decide +kernel)) ggX5_coins_X5_endAfter
set_option maxRecDepth 20000 in
theorem ggX5_coins_X5_partOfFraction : GoodIn wsX5_coins wsX5_partOfFraction := goodIn_r _ [87, 88, 89, 38, 90, 91, 92, 5, 93] (by decide +kernel) (by decide +kernel)
set_option maxRecDepth 20000 in
theorem gX5_coins_X5_partOfFraction : GoodIn wsX5_coins (va_wsS RX5 173 yX5_partOfFraction wsX5_partOfFraction) := goodIn_app (goodIn_of _ (by decide +kernel)) ggX5_coins_X5_partOfFraction
theorem dX5_coins_0 : decode cX5_coins 0 = .ok (.iload_n 1, 1) := by decide +kernel
theorem dX5_coins_1 : decode cX5_coins 1 = .ok (.invokestatic 143, 3) := by decide +kernel
theorem dX5_coins_4 : decode cX5_coins 4 = .ok (.ifCond .ne 9, 3) := by decide +kernel
theorem dX5_coins_7 : decode cX5_coins 7 = .ok (.iload_n 1, 1) := by decide +kernel
theorem dX5_coins_8 : decode cX5_coins 8 = .ok (.bipush 9, 2) := by decide +kernel
theorem dX5_coins_10 : decode cX5_coins 10 = .ok (.if_icmp .ne 13, 3) := by decide +kernel
theorem dX5_coins_13 : decode cX5_coins 13 = .ok (.iload_n 2, 1) := by decide +kernel
theorem dX5_coins_14 : decode cX5_coins 14 = .ok (.ifCond .lt 9, 3) := by decide +kernel
theorem dX5_coins_17 : decode cX5_coins 17 = .ok (.iload_n 2, 1) := by decide +kernel
theorem dX5_coins_18 : decode cX5_coins 18 = .ok (.bipush 10, 2) := by decide +kernel
theorem dX5_coins_20 : decode cX5_coins 20 = .ok (.if_icmp .le 6, 3) := by decide +kernel
theorem dX5_coins_23 : decode cX5_coins 23 = .ok (.bipush (-2), 2) := by decide +kernel
theorem dX5_coins_25 : decode cX5_coins 25 = .ok (.ireturn, 1) := by decide +kernel
theorem dX5_coins_26 : decode cX5_coins 26 = .ok (.iconst 0, 1) := by decide +kernel
theorem dX5_coins_27 : decode cX5_coins 27 = .ok (.istore 4, 2) := by decide +kernel
theorem dX5_coins_29 : decode cX5_coins 29 = .ok (.iconst 0, 1) := by decide +kernel
theorem dX5_coins_30 : decode cX5_coins 30 = .ok (.istore 5, 2) := by decide +kernel
theorem dX5_coins_32 : decode cX5_coins 32 = .ok (.iload 5, 2) := by decide +kernel
theorem dX5_coins_34 : decode cX5_coins 34 = .ok (.bipush 64, 2) := by decide +kernel
theorem dX5_coins_36 : decode cX5_coins 36 = .ok (.if_icmp .ge 81, 3) := by decide +kernel
theorem dX5_coins_39 : decode cX5_coins 39 = .ok (.iload 5, 2) := by decide +kernel
theorem dX5_coins_41 : decode cX5_coins 41 = .ok (.aload_n 0, 1) := by decide +kernel
theorem dX5_coins_42 : decode cX5_coins 42 = .ok (.getfield 31, 3) := by decide +kernel
theorem dX5_coins_45 : decode cX5_coins 45 = .ok (.getfield 121, 3) := by decide +kernel
theorem dX5_coins_48 : decode cX5_coins 48 = .ok (.iconst (-1), 1) := by decide +kernel
theorem dX5_coins_49 : decode cX5_coins 49 = .ok (.ixor, 1) := by decide +kernel
theorem dX5_coins_50 : decode cX5_coins 50 = .ok (.iand, 1) := by decide +kernel
theorem dX5_coins_51 : decode cX5_coins 51 = .ok (.ifCond .ne 60, 3) := by decide +kernel
theorem dX5_coins_54 : decode cX5_coins 54 = .ok (.iload_n 2, 1) := by decide +kernel
theorem dX5_coins_55 : decode cX5_coins 55 = .ok (.iload 5, 2) := by decide +kernel
theorem dX5_coins_57 : decode cX5_coins 57 = .ok (.invokestatic 111, 3) := by decide +kernel
theorem dX5_coins_60 : decode cX5_coins 60 = .ok (.invokestatic 190, 3) := by decide +kernel
theorem dX5_coins_63 : decode cX5_coins 63 = .ok (.bipush 10, 2) := by decide +kernel
theorem dX5_coins_65 : decode cX5_coins 65 = .ok (.iload_n 2, 1) := by decide +kernel
theorem dX5_coins_66 : decode cX5_coins 66 = .ok (.isub, 1) := by decide +kernel
theorem dX5_coins_67 : decode cX5_coins 67 = .ok (.aload_n 0, 1) := by decide +kernel
theorem dX5_coins_68 : decode cX5_coins 68 = .ok (.getfield 31, 3) := by decide +kernel
theorem dX5_coins_71 : decode cX5_coins 71 = .ok (.getfield 121, 3) := by decide +kernel
theorem dX5_coins_74 : decode cX5_coins 74 = .ok (.iload 5, 2) := by decide +kernel
theorem dX5_coins_76 : decode cX5_coins 76 = .ok (.iconst (-1), 1) := by decide +kernel
theorem dX5_coins_77 : decode cX5_coins 77 = .ok (.ixor, 1) := by decide +kernel
end
section
theorem dX5_coins_78 : decode cX5_coins 78 = .ok (.iand, 1) := by decide +kernel
theorem dX5_coins_79 : decode cX5_coins 79 = .ok (.invokestatic 111, 3) := by decide +kernel
theorem dX5_coins_82 : decode cX5_coins 82 = .ok (.invokestatic 190, 3) := by decide +kernel
theorem dX5_coins_85 : decode cX5_coins 85 = .ok (.imul, 1) := by decide +kernel
theorem dX5_coins_86 : decode cX5_coins 86 = .ok (.istore 6, 2) := by decide +kernel
theorem dX5_coins_88 : decode cX5_coins 88 = .ok (.iload 6, 2) := by decide +kernel
theorem dX5_coins_90 : decode cX5_coins 90 = .ok (.ifCond .le 21, 3) := by decide +kernel
theorem dX5_coins_93 : decode cX5_coins 93 = .ok (.aload_n 0, 1) := by decide +kernel
theorem dX5_coins_94 : decode cX5_coins 94 = .ok (.iconst 4, 1) := by decide +kernel
theorem dX5_coins_95 : decode cX5_coins 95 = .ok (.iload 5, 2) := by decide +kernel
theorem dX5_coins_97 : decode cX5_coins 97 = .ok (.invokevirtual 193, 3) := by decide +kernel
theorem dX5_coins_100 : decode cX5_coins 100 = .ok (.iload_n 1, 1) := by decide +kernel
theorem dX5_coins_101 : decode cX5_coins 101 = .ok (.if_icmp .ne 10, 3) := by decide +kernel
theorem dX5_coins_104 : decode cX5_coins 104 = .ok (.iload 4, 2) := by decide +kernel
theorem dX5_coins_106 : decode cX5_coins 106 = .ok (.iload 6, 2) := by decide +kernel
theorem dX5_coins_108 : decode cX5_coins 108 = .ok (.iadd, 1) := by decide +kernel
theorem dX5_coins_109 : decode cX5_coins 109 = .ok (.istore 4, 2) := by decide +kernel
theorem dX5_coins_111 : decode cX5_coins 111 = .ok (.iinc 5 1, 3) := by decide +kernel
theorem dX5_coins_114 : decode cX5_coins 114 = .ok (.goto (-82), 3) := by decide +kernel
theorem dX5_coins_117 : decode cX5_coins 117 = .ok (.iload 4, 2) := by decide +kernel
theorem dX5_coins_119 : decode cX5_coins 119 = .ok (.bipush 10, 2) := by decide +kernel
theorem dX5_coins_121 : decode cX5_coins 121 = .ok (.aload_n 0, 1) := by decide +kernel
theorem dX5_coins_122 : decode cX5_coins 122 = .ok (.getfield 31, 3) := by decide +kernel
theorem dX5_coins_125 : decode cX5_coins 125 = .ok (.getfield 121, 3) := by decide +kernel
theorem dX5_coins_128 : decode cX5_coins 128 = .ok (.invokestatic 111, 3) := by decide +kernel
theorem dX5_coins_131 : decode cX5_coins 131 = .ok (.invokestatic 190, 3) := by decide +kernel
theorem dX5_coins_134 : decode cX5_coins 134 = .ok (.iload_n 3, 1) := by decide +kernel
theorem dX5_coins_135 : decode cX5_coins 135 = .ok (.invokestatic 173, 3) := by decide +kernel
theorem dX5_coins_138 : decode cX5_coins 138 = .ok (.ireturn, 1) := by decide +kernel
theorem dX5_seed_0 : decode cX5_seed 0 = .ok (.aload_n 0, 1) := by decide +kernel
theorem dX5_seed_1 : decode cX5_seed 1 = .ok (.getfield 196, 3) := by decide +kernel
theorem dX5_seed_4 : decode cX5_seed 4 = .ok (.lstore_n 3, 1) := by decide +kernel
theorem dX5_seed_5 : decode cX5_seed 5 = .ok (.aload_n 0, 1) := by decide +kernel
theorem dX5_seed_6 : decode cX5_seed 6 = .ok (.lload_n 1, 1) := by decide +kernel
theorem dX5_seed_7 : decode cX5_seed 7 = .ok (.putfield 196, 3) := by decide +kernel
theorem dX5_seed_10 : decode cX5_seed 10 = .ok (.lload_n 3, 1) := by decide +kernel
theorem dX5_seed_11 : decode cX5_seed 11 = .ok (.lreturn, 1) := by decide +kernel
set_option maxRecDepth 20000 in
theorem ggX5_assizes_X2_copyFrom : GoodIn wsX5_assizes wsX2_copyFrom := goodIn_r _ [11, 12, 13, 14, 15, 16, 84, 85, 86, 87, 88, 89] (by decide +kernel) (by decide +kernel)
set_option maxRecDepth 20000 in
theorem gX5_assizes_X2_copyFrom : GoodIn wsX5_assizes (wsV RX5 131 RX2 yX2_copyFrom wsX2_copyFrom) := goodIn_app (goodIn_of _ (by decide +kernel)) ggX5_assizes_X2_copyFrom
set_option maxRecDepth 20000 in
theorem ggX5_assizes_X2_passHour : GoodIn wsX5_assizes wsX2_passHour := goodIn_r _ [20, 14, 12, 21, 22, 23, 10, 24, 13, 25, 26, 27, 28, 29, 30, 31, 32, 33, 34, 35, 36, 37, 38, 39, 40, 41, 16, 42, 43, 44, 45, 46, 47, 48, 49, 50, 51, 52, 53, 54, 55, 56, 57, 58, 59, 15, 60, 61, 62, 63, 84, 85, 86, 87, 88, 89, 90, 91, 92, 93, 94, 95] (by decide +kernel) (by decide +kernel)
set_option maxRecDepth 20000 in
theorem gX5_assizes_X2_passHour : GoodIn wsX5_assizes (wsV RX5 107 RX2 yX2_passHour wsX2_passHour) := goodIn_app (goodIn_of _ (by decide +kernel)) ggX5_assizes_X2_passHour
set_option maxRecDepth 20000 in
theorem ggX5_assizes_X2_isThere : GoodIn wsX5_assizes wsX2_isThere := goodIn_r _ [50, 13, 84, 85, 86, 87, 88, 89] (by decide +kernel) (by decide +kernel)
set_option maxRecDepth 20000 in
theorem gX5_assizes_X2_isThere : GoodIn wsX5_assizes (wsV RX5 100 RX2 yX2_isThere wsX2_isThere) := goodIn_app (goodIn_of _ (by decide +kernel)) ggX5_assizes_X2_isThere
set_option maxRecDepth 20000 in
theorem ggX5_assizes_X2_carryOut : GoodIn wsX5_assizes wsX2_carryOut := goodIn_r _ [68, 15, 69, 70, 45, 71, 16, 13, 14, 12, 72, 18, 19, 10, 20, 21, 22, 23, 24, 25, 26, 27, 28, 29, 30, 31, 32, 33, 34, 35, 36, 37, 38, 39, 40, 41, 42, 43, 44, 46, 47, 48, 49, 50, 51, 52, 53, 54, 55, 56, 57, 58, 59, 60, 61, 62, 63, 84, 85, 86, 87, 88, 89, 90, 91, 92, 93, 94, 95] (by decide +kernel) (by decide +kernel)
set_option maxRecDepth 20000 in
theorem gX5_assizes_X2_carryOut : GoodIn wsX5_assizes (wsV RX5 162 RX2 yX2_carryOut wsX2_carryOut) := goodIn_app (goodIn_of _ (by decide +kernel)) ggX5_assizes_X2_carryOut
set_option maxRecDepth 20000 in
theorem ggX5_assizes_X2_verdict : GoodIn wsX5_assizes wsX2_verdict := goodIn_r _ [24, 13, 12, 25, 26, 27, 28, 29, 30, 31, 32, 33, 34, 10, 35, 36, 37, 84, 85, 86, 87, 88, 89, 90, 91, 92, 93, 94, 95] (by decide +kernel) (by decide +kernel)
set_option maxRecDepth 20000 in
theorem gX5_assizes_X2_verdict : GoodIn wsX5_assizes (wsV RX5 140 RX2 yX2_verdict wsX2_verdict) := goodIn_app (goodIn_of _ (by decide +kernel)) ggX5_assizes_X2_verdict
theorem dX5_assizes_0 : decode cX5_assizes 0 = .ok (.iload_n 1, 1) := by decide +kernel
theorem dX5_assizes_1 : decode cX5_assizes 1 = .ok (.iconst 1, 1) := by decide +kernel
theorem dX5_assizes_2 : decode cX5_assizes 2 = .ok (.if_icmp .lt 9, 3) := by decide +kernel
theorem dX5_assizes_5 : decode cX5_assizes 5 = .ok (.iload_n 1, 1) := by decide +kernel
theorem dX5_assizes_6 : decode cX5_assizes 6 = .ok (.bipush 20, 2) := by decide +kernel
theorem dX5_assizes_8 : decode cX5_assizes 8 = .ok (.if_icmp .le 6, 3) := by decide +kernel
theorem dX5_assizes_11 : decode cX5_assizes 11 = .ok (.bipush (-2), 2) := by decide +kernel
theorem dX5_assizes_13 : decode cX5_assizes 13 = .ok (.ireturn, 1) := by decide +kernel
theorem dX5_assizes_14 : decode cX5_assizes 14 = .ok (.aload_n 0, 1) := by decide +kernel
theorem dX5_assizes_15 : decode cX5_assizes 15 = .ok (.getfield 35, 3) := by decide +kernel
theorem dX5_assizes_18 : decode cX5_assizes 18 = .ok (.aload_n 0, 1) := by decide +kernel
theorem dX5_assizes_19 : decode cX5_assizes 19 = .ok (.getfield 31, 3) := by decide +kernel
theorem dX5_assizes_22 : decode cX5_assizes 22 = .ok (.invokevirtual 131, 3) := by decide +kernel
theorem dX5_assizes_25 : decode cX5_assizes 25 = .ok (.iconst 0, 1) := by decide +kernel
theorem dX5_assizes_26 : decode cX5_assizes 26 = .ok (.istore_n 2, 1) := by decide +kernel
theorem dX5_assizes_27 : decode cX5_assizes 27 = .ok (.iconst 0, 1) := by decide +kernel
theorem dX5_assizes_28 : decode cX5_assizes 28 = .ok (.istore_n 3, 1) := by decide +kernel
theorem dX5_assizes_29 : decode cX5_assizes 29 = .ok (.iload_n 3, 1) := by decide +kernel
theorem dX5_assizes_30 : decode cX5_assizes 30 = .ok (.iload_n 1, 1) := by decide +kernel
theorem dX5_assizes_31 : decode cX5_assizes 31 = .ok (.if_icmp .ge 99, 3) := by decide +kernel
theorem dX5_assizes_34 : decode cX5_assizes 34 = .ok (.aload_n 0, 1) := by decide +kernel
theorem dX5_assizes_35 : decode cX5_assizes 35 = .ok (.aload_n 0, 1) := by decide +kernel
theorem dX5_assizes_36 : decode cX5_assizes 36 = .ok (.getfield 196, 3) := by decide +kernel
theorem dX5_assizes_39 : decode cX5_assizes 39 = .ok (.ldc2_w 200, 3) := by decide +kernel
theorem dX5_assizes_42 : decode cX5_assizes 42 = .ok (.lmul, 1) := by decide +kernel
theorem dX5_assizes_43 : decode cX5_assizes 43 = .ok (.ldc2_w 202, 3) := by decide +kernel
theorem dX5_assizes_46 : decode cX5_assizes 46 = .ok (.ladd, 1) := by decide +kernel
theorem dX5_assizes_47 : decode cX5_assizes 47 = .ok (.putfield 196, 3) := by decide +kernel
theorem dX5_assizes_50 : decode cX5_assizes 50 = .ok (.aload_n 0, 1) := by decide +kernel
theorem dX5_assizes_51 : decode cX5_assizes 51 = .ok (.getfield 196, 3) := by decide +kernel
theorem dX5_assizes_54 : decode cX5_assizes 54 = .ok (.bipush 33, 2) := by decide +kernel
theorem dX5_assizes_56 : decode cX5_assizes 56 = .ok (.lushr, 1) := by decide +kernel
theorem dX5_assizes_57 : decode cX5_assizes 57 = .ok (.ldc2_w 204, 3) := by decide +kernel
theorem dX5_assizes_60 : decode cX5_assizes 60 = .ok (.lrem, 1) := by decide +kernel
theorem dX5_assizes_61 : decode cX5_assizes 61 = .ok (.l2i, 1) := by decide +kernel
theorem dX5_assizes_62 : decode cX5_assizes 62 = .ok (.istore 4, 2) := by decide +kernel
theorem dX5_assizes_64 : decode cX5_assizes 64 = .ok (.iload 4, 2) := by decide +kernel
theorem dX5_assizes_66 : decode cX5_assizes 66 = .ok (.bipush 6, 2) := by decide +kernel
theorem dX5_assizes_68 : decode cX5_assizes 68 = .ok (.if_icmp .lt 14, 3) := by decide +kernel
theorem dX5_assizes_71 : decode cX5_assizes 71 = .ok (.aload_n 0, 1) := by decide +kernel
theorem dX5_assizes_72 : decode cX5_assizes 72 = .ok (.getfield 35, 3) := by decide +kernel
theorem dX5_assizes_75 : decode cX5_assizes 75 = .ok (.invokevirtual 107, 3) := by decide +kernel
theorem dX5_assizes_78 : decode cX5_assizes 78 = .ok (.pop, 1) := by decide +kernel
theorem dX5_assizes_79 : decode cX5_assizes 79 = .ok (.goto 25, 3) := by decide +kernel
theorem dX5_assizes_82 : decode cX5_assizes 82 = .ok (.aload_n 0, 1) := by decide +kernel
theorem dX5_assizes_83 : decode cX5_assizes 83 = .ok (.getfield 35, 3) := by decide +kernel
theorem dX5_assizes_86 : decode cX5_assizes 86 = .ok (.iload 4, 2) := by decide +kernel
theorem dX5_assizes_88 : decode cX5_assizes 88 = .ok (.invokevirtual 100, 3) := by decide +kernel
theorem dX5_assizes_91 : decode cX5_assizes 91 = .ok (.ifCond .eq 13, 3) := by decide +kernel
theorem dX5_assizes_94 : decode cX5_assizes 94 = .ok (.aload_n 0, 1) := by decide +kernel
theorem dX5_assizes_95 : decode cX5_assizes 95 = .ok (.getfield 35, 3) := by decide +kernel
theorem dX5_assizes_98 : decode cX5_assizes 98 = .ok (.iconst 4, 1) := by decide +kernel
theorem dX5_assizes_99 : decode cX5_assizes 99 = .ok (.iload 4, 2) := by decide +kernel
theorem dX5_assizes_101 : decode cX5_assizes 101 = .ok (.invokevirtual 162, 3) := by decide +kernel
theorem dX5_assizes_104 : decode cX5_assizes 104 = .ok (.iload_n 2, 1) := by decide +kernel
theorem dX5_assizes_105 : decode cX5_assizes 105 = .ok (.aload_n 0, 1) := by decide +kernel
theorem dX5_assizes_106 : decode cX5_assizes 106 = .ok (.getfield 35, 3) := by decide +kernel
theorem dX5_assizes_109 : decode cX5_assizes 109 = .ok (.invokevirtual 140, 3) := by decide +kernel
theorem dX5_assizes_112 : decode cX5_assizes 112 = .ok (.bipush 9, 2) := by decide +kernel
theorem dX5_assizes_114 : decode cX5_assizes 114 = .ok (.if_icmp .ne 7, 3) := by decide +kernel
theorem dX5_assizes_117 : decode cX5_assizes 117 = .ok (.iconst 0, 1) := by decide +kernel
theorem dX5_assizes_118 : decode cX5_assizes 118 = .ok (.goto 4, 3) := by decide +kernel
theorem dX5_assizes_121 : decode cX5_assizes 121 = .ok (.iconst 1, 1) := by decide +kernel
theorem dX5_assizes_122 : decode cX5_assizes 122 = .ok (.iadd, 1) := by decide +kernel
theorem dX5_assizes_123 : decode cX5_assizes 123 = .ok (.istore_n 2, 1) := by decide +kernel
theorem dX5_assizes_124 : decode cX5_assizes 124 = .ok (.iinc 3 1, 3) := by decide +kernel
theorem dX5_assizes_127 : decode cX5_assizes 127 = .ok (.goto (-98), 3) := by decide +kernel
theorem dX5_assizes_130 : decode cX5_assizes 130 = .ok (.iload_n 2, 1) := by decide +kernel
theorem dX5_assizes_131 : decode cX5_assizes 131 = .ok (.ireturn, 1) := by decide +kernel
set_option maxRecDepth 20000 in
theorem ggX5_keep_X2_copyFrom : GoodIn wsX5_keep wsX2_copyFrom := goodIn_r _ [9, 10, 11, 12, 13, 14, 25, 26, 27, 28, 29, 30] (by decide +kernel) (by decide +kernel)
set_option maxRecDepth 20000 in
theorem gX5_keep_X2_copyFrom : GoodIn wsX5_keep (wsV RX5 131 RX2 yX2_copyFrom wsX2_copyFrom) := goodIn_app (goodIn_of _ (by decide +kernel)) ggX5_keep_X2_copyFrom
theorem dX5_keep_0 : decode cX5_keep 0 = .ok (.iload_n 1, 1) := by decide +kernel
theorem dX5_keep_1 : decode cX5_keep 1 = .ok (.ifCond .lt 8, 3) := by decide +kernel
theorem dX5_keep_4 : decode cX5_keep 4 = .ok (.iload_n 1, 1) := by decide +kernel
theorem dX5_keep_5 : decode cX5_keep 5 = .ok (.iconst 2, 1) := by decide +kernel
theorem dX5_keep_6 : decode cX5_keep 6 = .ok (.if_icmp .lt 5, 3) := by decide +kernel
theorem dX5_keep_9 : decode cX5_keep 9 = .ok (.iconst (-1), 1) := by decide +kernel
theorem dX5_keep_10 : decode cX5_keep 10 = .ok (.ireturn, 1) := by decide +kernel
theorem dX5_keep_11 : decode cX5_keep 11 = .ok (.aload_n 0, 1) := by decide +kernel
theorem dX5_keep_12 : decode cX5_keep 12 = .ok (.getfield 45, 3) := by decide +kernel
theorem dX5_keep_15 : decode cX5_keep 15 = .ok (.iload_n 1, 1) := by decide +kernel
theorem dX5_keep_16 : decode cX5_keep 16 = .ok (.aaload, 1) := by decide +kernel
theorem dX5_keep_17 : decode cX5_keep 17 = .ok (.aload_n 0, 1) := by decide +kernel
theorem dX5_keep_18 : decode cX5_keep 18 = .ok (.getfield 31, 3) := by decide +kernel
theorem dX5_keep_21 : decode cX5_keep 21 = .ok (.invokevirtual 131, 3) := by decide +kernel
theorem dX5_keep_24 : decode cX5_keep 24 = .ok (.aload_n 0, 1) := by decide +kernel
theorem dX5_keep_25 : decode cX5_keep 25 = .ok (.getfield 49, 3) := by decide +kernel
theorem dX5_keep_28 : decode cX5_keep 28 = .ok (.iload_n 1, 1) := by decide +kernel
theorem dX5_keep_29 : decode cX5_keep 29 = .ok (.iconst 1, 1) := by decide +kernel
theorem dX5_keep_30 : decode cX5_keep 30 = .ok (.bastore, 1) := by decide +kernel
theorem dX5_keep_31 : decode cX5_keep 31 = .ok (.aload_n 0, 1) := by decide +kernel
theorem dX5_keep_32 : decode cX5_keep 32 = .ok (.getfield 31, 3) := by decide +kernel
theorem dX5_keep_35 : decode cX5_keep 35 = .ok (.getfield 206, 3) := by decide +kernel
theorem dX5_keep_38 : decode cX5_keep 38 = .ok (.ireturn, 1) := by decide +kernel
set_option maxRecDepth 20000 in
theorem ggX5_again_X2_copyFrom : GoodIn wsX5_again wsX2_copyFrom := goodIn_r _ [10, 11, 12, 13, 14, 15, 32, 33, 34, 35, 36, 37] (by decide +kernel) (by decide +kernel)
set_option maxRecDepth 20000 in
theorem gX5_again_X2_copyFrom : GoodIn wsX5_again (wsV RX5 131 RX2 yX2_copyFrom wsX2_copyFrom) := goodIn_app (goodIn_of _ (by decide +kernel)) ggX5_again_X2_copyFrom
set_option maxRecDepth 20000 in
theorem ggX5_again_X0_forgetAll : GoodIn wsX5_again wsX0_forgetAll := goodIn_r _ [20, 21, 38, 39] (by decide +kernel) (by decide +kernel)
set_option maxRecDepth 20000 in
theorem gX5_again_X0_forgetAll : GoodIn wsX5_again (wsV RX5 75 RX0 yX0_forgetAll wsX0_forgetAll) := goodIn_app (goodIn_of _ (by decide +kernel)) ggX5_again_X0_forgetAll
theorem dX5_again_0 : decode cX5_again 0 = .ok (.iload_n 1, 1) := by decide +kernel
theorem dX5_again_1 : decode cX5_again 1 = .ok (.ifCond .lt 8, 3) := by decide +kernel
theorem dX5_again_4 : decode cX5_again 4 = .ok (.iload_n 1, 1) := by decide +kernel
theorem dX5_again_5 : decode cX5_again 5 = .ok (.iconst 2, 1) := by decide +kernel
theorem dX5_again_6 : decode cX5_again 6 = .ok (.if_icmp .lt 5, 3) := by decide +kernel
theorem dX5_again_9 : decode cX5_again 9 = .ok (.iconst (-1), 1) := by decide +kernel
theorem dX5_again_10 : decode cX5_again 10 = .ok (.ireturn, 1) := by decide +kernel
theorem dX5_again_11 : decode cX5_again 11 = .ok (.aload_n 0, 1) := by decide +kernel
theorem dX5_again_12 : decode cX5_again 12 = .ok (.getfield 49, 3) := by decide +kernel
theorem dX5_again_15 : decode cX5_again 15 = .ok (.iload_n 1, 1) := by decide +kernel
theorem dX5_again_16 : decode cX5_again 16 = .ok (.baload, 1) := by decide +kernel
theorem dX5_again_17 : decode cX5_again 17 = .ok (.ifCond .ne 6, 3) := by decide +kernel
theorem dX5_again_20 : decode cX5_again 20 = .ok (.bipush (-3), 2) := by decide +kernel
theorem dX5_again_22 : decode cX5_again 22 = .ok (.ireturn, 1) := by decide +kernel
theorem dX5_again_23 : decode cX5_again 23 = .ok (.aload_n 0, 1) := by decide +kernel
theorem dX5_again_24 : decode cX5_again 24 = .ok (.getfield 31, 3) := by decide +kernel
theorem dX5_again_27 : decode cX5_again 27 = .ok (.aload_n 0, 1) := by decide +kernel
theorem dX5_again_28 : decode cX5_again 28 = .ok (.getfield 45, 3) := by decide +kernel
theorem dX5_again_31 : decode cX5_again 31 = .ok (.iload_n 1, 1) := by decide +kernel
theorem dX5_again_32 : decode cX5_again 32 = .ok (.aaload, 1) := by decide +kernel
theorem dX5_again_33 : decode cX5_again 33 = .ok (.invokevirtual 131, 3) := by decide +kernel
theorem dX5_again_36 : decode cX5_again 36 = .ok (.aload_n 0, 1) := by decide +kernel
theorem dX5_again_37 : decode cX5_again 37 = .ok (.getfield 41, 3) := by decide +kernel
theorem dX5_again_40 : decode cX5_again 40 = .ok (.invokevirtual 75, 3) := by decide +kernel
theorem dX5_again_43 : decode cX5_again 43 = .ok (.aload_n 0, 1) := by decide +kernel
theorem dX5_again_44 : decode cX5_again 44 = .ok (.getfield 31, 3) := by decide +kernel
theorem dX5_again_47 : decode cX5_again 47 = .ok (.getfield 206, 3) := by decide +kernel
theorem dX5_again_50 : decode cX5_again 50 = .ok (.ireturn, 1) := by decide +kernel
set_option maxRecDepth 20000 in
theorem ggX5_count_X2_yesThere : GoodIn wsX5_count wsX2_yesThere := goodIn_r _ [17, 18, 19, 55, 56, 57, 58, 59, 60] (by decide +kernel) (by decide +kernel)
set_option maxRecDepth 20000 in
theorem gX5_count_X2_yesThere : GoodIn wsX5_count (wsV RX5 134 RX2 yX2_yesThere wsX2_yesThere) := goodIn_app (goodIn_of _ (by decide +kernel)) ggX5_count_X2_yesThere
set_option maxRecDepth 20000 in
theorem ggX5_count_X2_verdict : GoodIn wsX5_count wsX2_verdict := goodIn_r _ [23, 19, 18, 24, 25, 26, 27, 28, 29, 30, 31, 32, 33, 16, 34, 35, 36, 55, 56, 57, 58, 59, 60, 49, 50, 51, 52, 53, 54] (by decide +kernel) (by decide +kernel)
set_option maxRecDepth 20000 in
theorem gX5_count_X2_verdict : GoodIn wsX5_count (wsV RX5 140 RX2 yX2_verdict wsX2_verdict) := goodIn_app (goodIn_of _ (by decide +kernel)) ggX5_count_X2_verdict
theorem dX5_count_0 : decode cX5_count 0 = .ok (.iload_n 1, 1) := by decide +kernel
theorem dX5_count_1 : decode cX5_count 1 = .ok (.tableswitch 123 0 8 #[51, 59, 67, 75, 83, 91, 99, 107, 115], 51) := by decide +kernel
theorem dX5_count_52 : decode cX5_count 52 = .ok (.aload_n 0, 1) := by decide +kernel
theorem dX5_count_53 : decode cX5_count 53 = .ok (.getfield 12, 3) := by decide +kernel
theorem dX5_count_56 : decode cX5_count 56 = .ok (.getfield 64, 3) := by decide +kernel
theorem dX5_count_59 : decode cX5_count 59 = .ok (.ireturn, 1) := by decide +kernel
theorem dX5_count_60 : decode cX5_count 60 = .ok (.aload_n 0, 1) := by decide +kernel
theorem dX5_count_61 : decode cX5_count 61 = .ok (.getfield 19, 3) := by decide +kernel
theorem dX5_count_64 : decode cX5_count 64 = .ok (.getfield 78, 3) := by decide +kernel
theorem dX5_count_67 : decode cX5_count 67 = .ok (.ireturn, 1) := by decide +kernel
theorem dX5_count_68 : decode cX5_count 68 = .ok (.aload_n 0, 1) := by decide +kernel
theorem dX5_count_69 : decode cX5_count 69 = .ok (.getfield 19, 3) := by decide +kernel
theorem dX5_count_72 : decode cX5_count 72 = .ok (.getfield 209, 3) := by decide +kernel
theorem dX5_count_75 : decode cX5_count 75 = .ok (.ireturn, 1) := by decide +kernel
theorem dX5_count_76 : decode cX5_count 76 = .ok (.aload_n 0, 1) := by decide +kernel
theorem dX5_count_77 : decode cX5_count 77 = .ok (.getfield 31, 3) := by decide +kernel
theorem dX5_count_80 : decode cX5_count 80 = .ok (.getfield 206, 3) := by decide +kernel
theorem dX5_count_83 : decode cX5_count 83 = .ok (.ireturn, 1) := by decide +kernel
theorem dX5_count_84 : decode cX5_count 84 = .ok (.aload_n 0, 1) := by decide +kernel
theorem dX5_count_85 : decode cX5_count 85 = .ok (.getfield 31, 3) := by decide +kernel
theorem dX5_count_88 : decode cX5_count 88 = .ok (.getfield 121, 3) := by decide +kernel
theorem dX5_count_91 : decode cX5_count 91 = .ok (.ireturn, 1) := by decide +kernel
theorem dX5_count_92 : decode cX5_count 92 = .ok (.aload_n 0, 1) := by decide +kernel
theorem dX5_count_93 : decode cX5_count 93 = .ok (.getfield 31, 3) := by decide +kernel
theorem dX5_count_96 : decode cX5_count 96 = .ok (.invokevirtual 134, 3) := by decide +kernel
theorem dX5_count_99 : decode cX5_count 99 = .ok (.ireturn, 1) := by decide +kernel
theorem dX5_count_100 : decode cX5_count 100 = .ok (.aload_n 0, 1) := by decide +kernel
theorem dX5_count_101 : decode cX5_count 101 = .ok (.getfield 31, 3) := by decide +kernel
theorem dX5_count_104 : decode cX5_count 104 = .ok (.invokevirtual 140, 3) := by decide +kernel
theorem dX5_count_107 : decode cX5_count 107 = .ok (.ireturn, 1) := by decide +kernel
theorem dX5_count_108 : decode cX5_count 108 = .ok (.aload_n 0, 1) := by decide +kernel
theorem dX5_count_109 : decode cX5_count 109 = .ok (.getfield 41, 3) := by decide +kernel
theorem dX5_count_112 : decode cX5_count 112 = .ok (.getfield 128, 3) := by decide +kernel
theorem dX5_count_115 : decode cX5_count 115 = .ok (.ireturn, 1) := by decide +kernel
theorem dX5_count_116 : decode cX5_count 116 = .ok (.aload_n 0, 1) := by decide +kernel
theorem dX5_count_117 : decode cX5_count 117 = .ok (.getfield 56, 3) := by decide +kernel
theorem dX5_count_120 : decode cX5_count 120 = .ok (.getfield 169, 3) := by decide +kernel
theorem dX5_count_123 : decode cX5_count 123 = .ok (.ireturn, 1) := by decide +kernel
theorem dX5_count_124 : decode cX5_count 124 = .ok (.bipush (-2), 2) := by decide +kernel
theorem dX5_count_126 : decode cX5_count 126 = .ok (.ireturn, 1) := by decide +kernel
theorem dX5_isJuror_0 : decode cX5_isJuror 0 = .ok (.iload_n 1, 1) := by decide +kernel
theorem dX5_isJuror_1 : decode cX5_isJuror 1 = .ok (.ifCond .lt 24, 3) := by decide +kernel
theorem dX5_isJuror_4 : decode cX5_isJuror 4 = .ok (.iload_n 1, 1) := by decide +kernel
theorem dX5_isJuror_5 : decode cX5_isJuror 5 = .ok (.aload_n 0, 1) := by decide +kernel
theorem dX5_isJuror_6 : decode cX5_isJuror 6 = .ok (.getfield 19, 3) := by decide +kernel
theorem dX5_isJuror_9 : decode cX5_isJuror 9 = .ok (.getfield 78, 3) := by decide +kernel
theorem dX5_isJuror_12 : decode cX5_isJuror 12 = .ok (.if_icmp .ge 13, 3) := by decide +kernel
theorem dX5_isJuror_15 : decode cX5_isJuror 15 = .ok (.iload_n 1, 1) := by decide +kernel
theorem dX5_isJuror_16 : decode cX5_isJuror 16 = .ok (.bipush 6, 2) := by decide +kernel
theorem dX5_isJuror_18 : decode cX5_isJuror 18 = .ok (.if_icmp .ge 7, 3) := by decide +kernel
theorem dX5_isJuror_21 : decode cX5_isJuror 21 = .ok (.iconst 1, 1) := by decide +kernel
theorem dX5_isJuror_22 : decode cX5_isJuror 22 = .ok (.goto 4, 3) := by decide +kernel
theorem dX5_isJuror_25 : decode cX5_isJuror 25 = .ok (.iconst 0, 1) := by decide +kernel
theorem dX5_isJuror_26 : decode cX5_isJuror 26 = .ok (.ireturn, 1) := by decide +kernel
theorem dX5_isSide_0 : decode cX5_isSide 0 = .ok (.iload_n 0, 1) := by decide +kernel
theorem dX5_isSide_1 : decode cX5_isSide 1 = .ok (.ifCond .eq 8, 3) := by decide +kernel
theorem dX5_isSide_4 : decode cX5_isSide 4 = .ok (.iload_n 0, 1) := by decide +kernel
theorem dX5_isSide_5 : decode cX5_isSide 5 = .ok (.iconst 1, 1) := by decide +kernel
theorem dX5_isSide_6 : decode cX5_isSide 6 = .ok (.if_icmp .ne 7, 3) := by decide +kernel
theorem dX5_isSide_9 : decode cX5_isSide 9 = .ok (.iconst 1, 1) := by decide +kernel
theorem dX5_isSide_10 : decode cX5_isSide 10 = .ok (.goto 4, 3) := by decide +kernel
theorem dX5_isSide_13 : decode cX5_isSide 13 = .ok (.iconst 0, 1) := by decide +kernel
theorem dX5_isSide_14 : decode cX5_isSide 14 = .ok (.ireturn, 1) := by decide +kernel
set_option maxRecDepth 20000 in
theorem ggX5_doAct_X5_isJuror : GoodIn wsX5_doAct wsX5_isJuror := goodIn_r _ [7, 8, 9, 89, 90, 91, 92, 93, 94, 95, 96, 97, 98, 99, 100, 101, 102, 103, 104] (by decide +kernel) (by decide +kernel)
set_option maxRecDepth 20000 in
theorem gX5_doAct_X5_isJuror : GoodIn wsX5_doAct (wsV RX5 81 RX5 yX5_isJuror wsX5_isJuror) := goodIn_app (goodIn_of _ (by decide +kernel)) ggX5_doAct_X5_isJuror
set_option maxRecDepth 20000 in
theorem ggX5_doAct_X2_canDo : GoodIn wsX5_doAct wsX2_canDo := goodIn_r _ [14, 15, 16, 17, 18, 19, 13, 20, 21, 105, 106, 107, 108, 109, 110] (by decide +kernel) (by decide +kernel)
set_option maxRecDepth 20000 in
theorem gX5_doAct_X2_canDo : GoodIn wsX5_doAct (wsV RX5 158 RX2 yX2_canDo wsX2_canDo) := goodIn_app (goodIn_of _ (by decide +kernel)) ggX5_doAct_X2_canDo
set_option maxRecDepth 20000 in
theorem ggX5_doAct_X0_remember : GoodIn wsX5_doAct wsX0_remember := goodIn_r _ [26, 27, 28, 29, 30, 31, 25, 32, 33, 34, 35, 13, 36, 37, 21, 38, 15, 16, 111, 112, 105, 106, 107, 108, 109, 110] (by decide +kernel) (by decide +kernel)
set_option maxRecDepth 20000 in
theorem gX5_doAct_X0_remember : GoodIn wsX5_doAct (wsV RX5 103 RX0 yX0_remember wsX0_remember) := goodIn_app (goodIn_of _ (by decide +kernel)) ggX5_doAct_X0_remember
set_option maxRecDepth 20000 in
theorem ggX5_doAct_X2_carryOut : GoodIn wsX5_doAct wsX2_carryOut := goodIn_r _ [42, 15, 43, 44, 45, 46, 16, 21, 38, 37, 47, 48, 49, 13, 50, 51, 52, 53, 54, 55, 56, 57, 58, 59, 60, 61, 62, 63, 64, 65, 66, 67, 68, 69, 70, 71, 72, 73, 74, 75, 17, 18, 19, 20, 76, 77, 78, 79, 80, 81, 82, 83, 84, 85, 86, 87, 88, 105, 106, 107, 108, 109, 110, 99, 100, 101, 102, 103, 104] (by decide +kernel) (by decide +kernel)
set_option maxRecDepth 20000 in
theorem gX5_doAct_X2_carryOut : GoodIn wsX5_doAct (wsV RX5 162 RX2 yX2_carryOut wsX2_carryOut) := goodIn_app (goodIn_of _ (by decide +kernel)) ggX5_doAct_X2_carryOut
theorem dX5_doAct_0 : decode cX5_doAct 0 = .ok (.aload_n 0, 1) := by decide +kernel
theorem dX5_doAct_1 : decode cX5_doAct 1 = .ok (.iload_n 2, 1) := by decide +kernel
theorem dX5_doAct_2 : decode cX5_doAct 2 = .ok (.invokevirtual 81, 3) := by decide +kernel
theorem dX5_doAct_5 : decode cX5_doAct 5 = .ok (.ifCond .ne 5, 3) := by decide +kernel
theorem dX5_doAct_8 : decode cX5_doAct 8 = .ok (.iconst (-1), 1) := by decide +kernel
theorem dX5_doAct_9 : decode cX5_doAct 9 = .ok (.ireturn, 1) := by decide +kernel
theorem dX5_doAct_10 : decode cX5_doAct 10 = .ok (.aload_n 0, 1) := by decide +kernel
theorem dX5_doAct_11 : decode cX5_doAct 11 = .ok (.getfield 31, 3) := by decide +kernel
theorem dX5_doAct_14 : decode cX5_doAct 14 = .ok (.iload_n 1, 1) := by decide +kernel
theorem dX5_doAct_15 : decode cX5_doAct 15 = .ok (.iload_n 2, 1) := by decide +kernel
theorem dX5_doAct_16 : decode cX5_doAct 16 = .ok (.invokevirtual 158, 3) := by decide +kernel
theorem dX5_doAct_19 : decode cX5_doAct 19 = .ok (.ifCond .ne 6, 3) := by decide +kernel
theorem dX5_doAct_22 : decode cX5_doAct 22 = .ok (.bipush (-3), 2) := by decide +kernel
theorem dX5_doAct_24 : decode cX5_doAct 24 = .ok (.ireturn, 1) := by decide +kernel
theorem dX5_doAct_25 : decode cX5_doAct 25 = .ok (.aload_n 0, 1) := by decide +kernel
theorem dX5_doAct_26 : decode cX5_doAct 26 = .ok (.getfield 41, 3) := by decide +kernel
theorem dX5_doAct_29 : decode cX5_doAct 29 = .ok (.aload_n 0, 1) := by decide +kernel
theorem dX5_doAct_30 : decode cX5_doAct 30 = .ok (.getfield 31, 3) := by decide +kernel
theorem dX5_doAct_33 : decode cX5_doAct 33 = .ok (.invokevirtual 103, 3) := by decide +kernel
theorem dX5_doAct_36 : decode cX5_doAct 36 = .ok (.aload_n 0, 1) := by decide +kernel
theorem dX5_doAct_37 : decode cX5_doAct 37 = .ok (.getfield 31, 3) := by decide +kernel
theorem dX5_doAct_40 : decode cX5_doAct 40 = .ok (.iload_n 1, 1) := by decide +kernel
theorem dX5_doAct_41 : decode cX5_doAct 41 = .ok (.iload_n 2, 1) := by decide +kernel
theorem dX5_doAct_42 : decode cX5_doAct 42 = .ok (.invokevirtual 162, 3) := by decide +kernel
theorem dX5_doAct_45 : decode cX5_doAct 45 = .ok (.bipush (-9), 2) := by decide +kernel
theorem dX5_doAct_47 : decode cX5_doAct 47 = .ok (.ireturn, 1) := by decide +kernel
set_option maxRecDepth 20000 in
theorem ggX5_endAfter_X2_copyFrom : GoodIn wsX5_endAfter wsX2_copyFrom := goodIn_r _ [7, 8, 9, 10, 11, 12, 82, 83, 84, 85, 86, 87] (by decide +kernel) (by decide +kernel)
set_option maxRecDepth 20000 in
theorem gX5_endAfter_X2_copyFrom : GoodIn wsX5_endAfter (wsV RX5 131 RX2 yX2_copyFrom wsX2_copyFrom) := goodIn_app (goodIn_of _ (by decide +kernel)) ggX5_endAfter_X2_copyFrom
set_option maxRecDepth 20000 in
theorem ggX5_endAfter_X2_carryOut : GoodIn wsX5_endAfter wsX2_carryOut := goodIn_r _ [16, 11, 17, 18, 19, 20, 12, 9, 10, 8, 21, 22, 23, 6, 24, 25, 26, 27, 28, 29, 30, 31, 32, 33, 34, 35, 36, 37, 38, 39, 40, 41, 42, 43, 44, 45, 46, 47, 48, 49, 50, 51, 52, 53, 54, 55, 56, 57, 58, 59, 60, 61, 62, 63, 64, 65, 66, 82, 83, 84, 85, 86, 87, 88, 89, 90, 91, 92, 93] (by decide +kernel) (by decide +kernel)
set_option maxRecDepth 20000 in
theorem gX5_endAfter_X2_carryOut : GoodIn wsX5_endAfter (wsV RX5 162 RX2 yX2_carryOut wsX2_carryOut) := goodIn_app (goodIn_of _ (by decide +kernel)) ggX5_endAfter_X2_carryOut
set_option maxRecDepth 20000 in
theorem ggX5_endAfter_X2_passHoursToEnd : GoodIn wsX5_endAfter wsX2_passHoursToEnd := goodIn_r _ [70, 25, 26, 27, 6, 28, 9, 8, 29, 30, 31, 32, 33, 34, 35, 36, 37, 38, 39, 40, 41, 21, 22, 23, 24, 10, 42, 43, 44, 45, 12, 46, 47, 48, 19, 49, 50, 51, 52, 53, 54, 55, 56, 57, 58, 59, 60, 61, 62, 11, 63, 64, 65, 66, 82, 83, 84, 85, 86, 87, 88, 89, 90, 91, 92, 93] (by decide +kernel) (by decide +kernel)
set_option maxRecDepth 20000 in
theorem gX5_endAfter_X2_passHoursToEnd : GoodIn wsX5_endAfter (wsV RX5 137 RX2 yX2_passHoursToEnd wsX2_passHoursToEnd) := goodIn_app (goodIn_of _ (by decide +kernel)) ggX5_endAfter_X2_passHoursToEnd
set_option maxRecDepth 20000 in
theorem ggX5_endAfter_X2_verdict : GoodIn wsX5_endAfter wsX2_verdict := goodIn_r _ [28, 9, 8, 29, 30, 31, 32, 33, 34, 35, 36, 37, 38, 6, 39, 40, 41, 82, 83, 84, 85, 86, 87, 88, 89, 90, 91, 92, 93] (by decide +kernel) (by decide +kernel)
set_option maxRecDepth 20000 in
theorem gX5_endAfter_X2_verdict : GoodIn wsX5_endAfter (wsV RX5 140 RX2 yX2_verdict wsX2_verdict) := goodIn_app (goodIn_of _ (by decide +kernel)) ggX5_endAfter_X2_verdict
theorem dX5_endAfter_0 : decode cX5_endAfter 0 = .ok (.aload_n 0, 1) := by decide +kernel
theorem dX5_endAfter_1 : decode cX5_endAfter 1 = .ok (.getfield 35, 3) := by decide +kernel
theorem dX5_endAfter_4 : decode cX5_endAfter 4 = .ok (.aload_n 0, 1) := by decide +kernel
theorem dX5_endAfter_5 : decode cX5_endAfter 5 = .ok (.getfield 31, 3) := by decide +kernel
theorem dX5_endAfter_8 : decode cX5_endAfter 8 = .ok (.invokevirtual 131, 3) := by decide +kernel
theorem dX5_endAfter_11 : decode cX5_endAfter 11 = .ok (.iconst 0, 1) := by decide +kernel
theorem dX5_endAfter_12 : decode cX5_endAfter 12 = .ok (.istore_n 3, 1) := by decide +kernel
theorem dX5_endAfter_13 : decode cX5_endAfter 13 = .ok (.iload_n 3, 1) := by decide +kernel
theorem dX5_endAfter_14 : decode cX5_endAfter 14 = .ok (.bipush 6, 2) := by decide +kernel
theorem dX5_endAfter_16 : decode cX5_endAfter 16 = .ok (.if_icmp .ge 27, 3) := by decide +kernel
theorem dX5_endAfter_19 : decode cX5_endAfter 19 = .ok (.iload_n 2, 1) := by decide +kernel
theorem dX5_endAfter_20 : decode cX5_endAfter 20 = .ok (.iload_n 3, 1) := by decide +kernel
theorem dX5_endAfter_21 : decode cX5_endAfter 21 = .ok (.ishr, 1) := by decide +kernel
theorem dX5_endAfter_22 : decode cX5_endAfter 22 = .ok (.iconst 1, 1) := by decide +kernel
theorem dX5_endAfter_23 : decode cX5_endAfter 23 = .ok (.iand, 1) := by decide +kernel
theorem dX5_endAfter_24 : decode cX5_endAfter 24 = .ok (.iconst 1, 1) := by decide +kernel
theorem dX5_endAfter_25 : decode cX5_endAfter 25 = .ok (.if_icmp .ne 12, 3) := by decide +kernel
theorem dX5_endAfter_28 : decode cX5_endAfter 28 = .ok (.aload_n 0, 1) := by decide +kernel
theorem dX5_endAfter_29 : decode cX5_endAfter 29 = .ok (.getfield 35, 3) := by decide +kernel
theorem dX5_endAfter_32 : decode cX5_endAfter 32 = .ok (.iload_n 1, 1) := by decide +kernel
theorem dX5_endAfter_33 : decode cX5_endAfter 33 = .ok (.iload_n 3, 1) := by decide +kernel
theorem dX5_endAfter_34 : decode cX5_endAfter 34 = .ok (.invokevirtual 162, 3) := by decide +kernel
theorem dX5_endAfter_37 : decode cX5_endAfter 37 = .ok (.iinc 3 1, 3) := by decide +kernel
theorem dX5_endAfter_40 : decode cX5_endAfter 40 = .ok (.goto (-27), 3) := by decide +kernel
theorem dX5_endAfter_43 : decode cX5_endAfter 43 = .ok (.aload_n 0, 1) := by decide +kernel
theorem dX5_endAfter_44 : decode cX5_endAfter 44 = .ok (.getfield 35, 3) := by decide +kernel
theorem dX5_endAfter_47 : decode cX5_endAfter 47 = .ok (.invokevirtual 137, 3) := by decide +kernel
theorem dX5_endAfter_50 : decode cX5_endAfter 50 = .ok (.pop, 1) := by decide +kernel
theorem dX5_endAfter_51 : decode cX5_endAfter 51 = .ok (.aload_n 0, 1) := by decide +kernel
theorem dX5_endAfter_52 : decode cX5_endAfter 52 = .ok (.getfield 35, 3) := by decide +kernel
theorem dX5_endAfter_55 : decode cX5_endAfter 55 = .ok (.invokevirtual 140, 3) := by decide +kernel
theorem dX5_endAfter_58 : decode cX5_endAfter 58 = .ok (.ireturn, 1) := by decide +kernel
set_option maxRecDepth 20000 in
theorem ggX5_fewestFor_J6_bitCount_0f7a4 : GoodIn wsX5_fewestFor wsJ6_bitCount_0f7a4 := goodIn_r _ [6, 7, 8, 9] (by decide +kernel) (by decide +kernel)
set_option maxRecDepth 20000 in
theorem gX5_fewestFor_J6_bitCount_0f7a4 : GoodIn wsX5_fewestFor (va_wsS RX5 111 yJ6_bitCount_0f7a4 wsJ6_bitCount_0f7a4) := goodIn_app (goodIn_of _ (by decide +kernel)) ggX5_fewestFor_J6_bitCount_0f7a4
set_option maxRecDepth 20000 in
theorem ggX5_fewestFor_X5_endAfter : GoodIn wsX5_fewestFor wsX5_endAfter := goodIn_r _ [14, 15, 1, 16, 17, 18, 19, 20, 21, 22, 23, 24, 25, 26, 27, 28, 29, 30, 31, 32, 33, 34, 35, 36, 37, 38, 39, 40, 41, 42, 4, 5, 6, 7, 8, 9, 43, 44, 45, 46, 47, 48, 49, 50, 51, 52, 53, 54, 55, 56, 57, 58, 59, 60, 61, 62, 63, 64, 65, 66, 67, 68, 69, 70, 71, 72, 73, 74, 75, 76, 77, 78, 79, 80, 81, 82, 83, 84, 85, 86, 87, 88, 89, 90, 91, 92, 93, 94, 95, 96, 97, 98, 99, 100] (by decide +kernel) (by decide +kernel)
set_option maxRecDepth 20000 in
theorem gX5_fewestFor_X5_endAfter : GoodIn wsX5_fewestFor (wsV RX5 193 RX5 yX5_endAfter wsX5_endAfter) := goodIn_app (goodIn_of _ (by decide +kernel)) ggX5_fewestFor_X5_endAfter
theorem dX5_fewestFor_0 : decode cX5_fewestFor 0 = .ok (.bipush (-9), 2) := by decide +kernel
theorem dX5_fewestFor_2 : decode cX5_fewestFor 2 = .ok (.istore_n 3, 1) := by decide +kernel
theorem dX5_fewestFor_3 : decode cX5_fewestFor 3 = .ok (.bipush 7, 2) := by decide +kernel
theorem dX5_fewestFor_5 : decode cX5_fewestFor 5 = .ok (.istore 4, 2) := by decide +kernel
theorem dX5_fewestFor_7 : decode cX5_fewestFor 7 = .ok (.iconst 0, 1) := by decide +kernel
theorem dX5_fewestFor_8 : decode cX5_fewestFor 8 = .ok (.istore 5, 2) := by decide +kernel
theorem dX5_fewestFor_10 : decode cX5_fewestFor 10 = .ok (.iload 5, 2) := by decide +kernel
theorem dX5_fewestFor_12 : decode cX5_fewestFor 12 = .ok (.bipush 64, 2) := by decide +kernel
theorem dX5_fewestFor_14 : decode cX5_fewestFor 14 = .ok (.if_icmp .ge 85, 3) := by decide +kernel
theorem dX5_fewestFor_17 : decode cX5_fewestFor 17 = .ok (.iload 5, 2) := by decide +kernel
theorem dX5_fewestFor_19 : decode cX5_fewestFor 19 = .ok (.invokestatic 111, 3) := by decide +kernel
theorem dX5_fewestFor_22 : decode cX5_fewestFor 22 = .ok (.istore 6, 2) := by decide +kernel
theorem dX5_fewestFor_24 : decode cX5_fewestFor 24 = .ok (.iload 5, 2) := by decide +kernel
theorem dX5_fewestFor_26 : decode cX5_fewestFor 26 = .ok (.aload_n 0, 1) := by decide +kernel
theorem dX5_fewestFor_27 : decode cX5_fewestFor 27 = .ok (.getfield 31, 3) := by decide +kernel
theorem dX5_fewestFor_30 : decode cX5_fewestFor 30 = .ok (.getfield 121, 3) := by decide +kernel
theorem dX5_fewestFor_33 : decode cX5_fewestFor 33 = .ok (.iconst (-1), 1) := by decide +kernel
theorem dX5_fewestFor_34 : decode cX5_fewestFor 34 = .ok (.ixor, 1) := by decide +kernel
theorem dX5_fewestFor_35 : decode cX5_fewestFor 35 = .ok (.iand, 1) := by decide +kernel
theorem dX5_fewestFor_36 : decode cX5_fewestFor 36 = .ok (.ifCond .ne 24, 3) := by decide +kernel
theorem dX5_fewestFor_39 : decode cX5_fewestFor 39 = .ok (.iload_n 1, 1) := by decide +kernel
theorem dX5_fewestFor_40 : decode cX5_fewestFor 40 = .ok (.iconst 3, 1) := by decide +kernel
theorem dX5_fewestFor_41 : decode cX5_fewestFor 41 = .ok (.if_icmp .ne 15, 3) := by decide +kernel
theorem dX5_fewestFor_44 : decode cX5_fewestFor 44 = .ok (.iload 5, 2) := by decide +kernel
theorem dX5_fewestFor_46 : decode cX5_fewestFor 46 = .ok (.aload_n 0, 1) := by decide +kernel
theorem dX5_fewestFor_47 : decode cX5_fewestFor 47 = .ok (.getfield 31, 3) := by decide +kernel
theorem dX5_fewestFor_50 : decode cX5_fewestFor 50 = .ok (.getfield 121, 3) := by decide +kernel
theorem dX5_fewestFor_53 : decode cX5_fewestFor 53 = .ok (.if_icmp .eq 7, 3) := by decide +kernel
theorem dX5_fewestFor_56 : decode cX5_fewestFor 56 = .ok (.iconst 1, 1) := by decide +kernel
theorem dX5_fewestFor_57 : decode cX5_fewestFor 57 = .ok (.goto 4, 3) := by decide +kernel
theorem dX5_fewestFor_60 : decode cX5_fewestFor 60 = .ok (.iconst 0, 1) := by decide +kernel
theorem dX5_fewestFor_61 : decode cX5_fewestFor 61 = .ok (.istore 7, 2) := by decide +kernel
theorem dX5_fewestFor_63 : decode cX5_fewestFor 63 = .ok (.iload 7, 2) := by decide +kernel
theorem dX5_fewestFor_65 : decode cX5_fewestFor 65 = .ok (.ifCond .eq 28, 3) := by decide +kernel
theorem dX5_fewestFor_68 : decode cX5_fewestFor 68 = .ok (.iload 6, 2) := by decide +kernel
theorem dX5_fewestFor_70 : decode cX5_fewestFor 70 = .ok (.iload 4, 2) := by decide +kernel
theorem dX5_fewestFor_72 : decode cX5_fewestFor 72 = .ok (.if_icmp .ge 21, 3) := by decide +kernel
theorem dX5_fewestFor_75 : decode cX5_fewestFor 75 = .ok (.aload_n 0, 1) := by decide +kernel
theorem dX5_fewestFor_76 : decode cX5_fewestFor 76 = .ok (.iload_n 1, 1) := by decide +kernel
theorem dX5_fewestFor_77 : decode cX5_fewestFor 77 = .ok (.iload 5, 2) := by decide +kernel
theorem dX5_fewestFor_79 : decode cX5_fewestFor 79 = .ok (.invokevirtual 193, 3) := by decide +kernel
theorem dX5_fewestFor_82 : decode cX5_fewestFor 82 = .ok (.iload_n 2, 1) := by decide +kernel
theorem dX5_fewestFor_83 : decode cX5_fewestFor 83 = .ok (.if_icmp .ne 10, 3) := by decide +kernel
theorem dX5_fewestFor_86 : decode cX5_fewestFor 86 = .ok (.iload 5, 2) := by decide +kernel
theorem dX5_fewestFor_88 : decode cX5_fewestFor 88 = .ok (.istore_n 3, 1) := by decide +kernel
theorem dX5_fewestFor_89 : decode cX5_fewestFor 89 = .ok (.iload 6, 2) := by decide +kernel
theorem dX5_fewestFor_91 : decode cX5_fewestFor 91 = .ok (.istore 4, 2) := by decide +kernel
theorem dX5_fewestFor_93 : decode cX5_fewestFor 93 = .ok (.iinc 5 1, 3) := by decide +kernel
theorem dX5_fewestFor_96 : decode cX5_fewestFor 96 = .ok (.goto (-86), 3) := by decide +kernel
theorem dX5_fewestFor_99 : decode cX5_fewestFor 99 = .ok (.iload_n 3, 1) := by decide +kernel
theorem dX5_fewestFor_100 : decode cX5_fewestFor 100 = .ok (.ireturn, 1) := by decide +kernel
set_option maxRecDepth 20000 in
theorem ggX5_leastMoveFor_X5_isMove : GoodIn wsX5_leastMoveFor wsX5_isMove := goodIn_r _ [5, 6, 7, 8, 9, 10, 11, 12, 82, 83, 84, 85, 86, 87, 88, 89, 90, 91, 92, 93, 94, 95, 96, 97] (by decide +kernel) (by decide +kernel)
set_option maxRecDepth 20000 in
theorem gX5_leastMoveFor_X5_isMove : GoodIn wsX5_leastMoveFor (wsV RX5 212 RX5 yX5_isMove wsX5_isMove) := goodIn_app (goodIn_of _ (by decide +kernel)) ggX5_leastMoveFor_X5_isMove
set_option maxRecDepth 20000 in
theorem ggX5_leastMoveFor_X5_endAfterMove : GoodIn wsX5_leastMoveFor wsX5_endAfterMove := goodIn_r _ [16, 17, 6, 18, 19, 20, 10, 21, 22, 12, 23, 24, 25, 26, 27, 28, 29, 30, 31, 32, 33, 34, 35, 36, 37, 38, 39, 40, 41, 42, 43, 44, 45, 46, 47, 48, 49, 50, 51, 52, 53, 54, 55, 56, 57, 58, 59, 60, 61, 62, 63, 8, 9, 11, 64, 65, 66, 67, 68, 69, 70, 71, 72, 73, 74, 75, 76, 77, 78, 79, 80, 81, 82, 83, 84, 85, 86, 87, 88, 89, 90, 91, 92, 93, 94, 95, 96, 97, 98, 99, 100, 101, 102, 103] (by decide +kernel) (by decide +kernel)
set_option maxRecDepth 20000 in
theorem gX5_leastMoveFor_X5_endAfterMove : GoodIn wsX5_leastMoveFor (wsV RX5 215 RX5 yX5_endAfterMove wsX5_endAfterMove) := goodIn_app (goodIn_of _ (by decide +kernel)) ggX5_leastMoveFor_X5_endAfterMove
theorem dX5_leastMoveFor_0 : decode cX5_leastMoveFor 0 = .ok (.iconst 0, 1) := by decide +kernel
theorem dX5_leastMoveFor_1 : decode cX5_leastMoveFor 1 = .ok (.istore_n 2, 1) := by decide +kernel
theorem dX5_leastMoveFor_2 : decode cX5_leastMoveFor 2 = .ok (.iload_n 2, 1) := by decide +kernel
theorem dX5_leastMoveFor_3 : decode cX5_leastMoveFor 3 = .ok (.sipush 666, 3) := by decide +kernel
theorem dX5_leastMoveFor_6 : decode cX5_leastMoveFor 6 = .ok (.if_icmp .gt 28, 3) := by decide +kernel
theorem dX5_leastMoveFor_9 : decode cX5_leastMoveFor 9 = .ok (.aload_n 0, 1) := by decide +kernel
theorem dX5_leastMoveFor_10 : decode cX5_leastMoveFor 10 = .ok (.iload_n 2, 1) := by decide +kernel
theorem dX5_leastMoveFor_11 : decode cX5_leastMoveFor 11 = .ok (.invokevirtual 212, 3) := by decide +kernel
theorem dX5_leastMoveFor_14 : decode cX5_leastMoveFor 14 = .ok (.ifCond .eq 14, 3) := by decide +kernel
theorem dX5_leastMoveFor_17 : decode cX5_leastMoveFor 17 = .ok (.aload_n 0, 1) := by decide +kernel
theorem dX5_leastMoveFor_18 : decode cX5_leastMoveFor 18 = .ok (.iload_n 2, 1) := by decide +kernel
theorem dX5_leastMoveFor_19 : decode cX5_leastMoveFor 19 = .ok (.invokevirtual 215, 3) := by decide +kernel
theorem dX5_leastMoveFor_22 : decode cX5_leastMoveFor 22 = .ok (.iload_n 1, 1) := by decide +kernel
theorem dX5_leastMoveFor_23 : decode cX5_leastMoveFor 23 = .ok (.if_icmp .ne 5, 3) := by decide +kernel
theorem dX5_leastMoveFor_26 : decode cX5_leastMoveFor 26 = .ok (.iload_n 2, 1) := by decide +kernel
theorem dX5_leastMoveFor_27 : decode cX5_leastMoveFor 27 = .ok (.ireturn, 1) := by decide +kernel
theorem dX5_leastMoveFor_28 : decode cX5_leastMoveFor 28 = .ok (.iinc 2 1, 3) := by decide +kernel
theorem dX5_leastMoveFor_31 : decode cX5_leastMoveFor 31 = .ok (.goto (-29), 3) := by decide +kernel
theorem dX5_leastMoveFor_34 : decode cX5_leastMoveFor 34 = .ok (.bipush (-9), 2) := by decide +kernel
theorem dX5_leastMoveFor_36 : decode cX5_leastMoveFor 36 = .ok (.ireturn, 1) := by decide +kernel
set_option maxRecDepth 20000 in
theorem ggX5_isMove_X2_isThere : GoodIn wsX5_isMove wsX2_isThere := goodIn_r _ [6, 7, 18, 19, 20, 21, 22, 23] (by decide +kernel) (by decide +kernel)
set_option maxRecDepth 20000 in
theorem gX5_isMove_X2_isThere : GoodIn wsX5_isMove (wsV RX5 100 RX2 yX2_isThere wsX2_isThere) := goodIn_app (goodIn_of _ (by decide +kernel)) ggX5_isMove_X2_isThere
theorem dX5_isMove_0 : decode cX5_isMove 0 = .ok (.bipush 6, 2) := by decide +kernel
theorem dX5_isMove_2 : decode cX5_isMove 2 = .ok (.istore_n 2, 1) := by decide +kernel
theorem dX5_isMove_3 : decode cX5_isMove 3 = .ok (.iload_n 1, 1) := by decide +kernel
theorem dX5_isMove_4 : decode cX5_isMove 4 = .ok (.istore_n 3, 1) := by decide +kernel
theorem dX5_isMove_5 : decode cX5_isMove 5 = .ok (.iload_n 3, 1) := by decide +kernel
theorem dX5_isMove_6 : decode cX5_isMove 6 = .ok (.ifCond .le 42, 3) := by decide +kernel
theorem dX5_isMove_9 : decode cX5_isMove 9 = .ok (.iload_n 3, 1) := by decide +kernel
theorem dX5_isMove_10 : decode cX5_isMove 10 = .ok (.bipush 10, 2) := by decide +kernel
theorem dX5_isMove_12 : decode cX5_isMove 12 = .ok (.irem, 1) := by decide +kernel
theorem dX5_isMove_13 : decode cX5_isMove 13 = .ok (.istore 4, 2) := by decide +kernel
theorem dX5_isMove_15 : decode cX5_isMove 15 = .ok (.iload 4, 2) := by decide +kernel
theorem dX5_isMove_17 : decode cX5_isMove 17 = .ok (.iload_n 2, 1) := by decide +kernel
theorem dX5_isMove_18 : decode cX5_isMove 18 = .ok (.if_icmp .gt 17, 3) := by decide +kernel
theorem dX5_isMove_21 : decode cX5_isMove 21 = .ok (.aload_n 0, 1) := by decide +kernel
theorem dX5_isMove_22 : decode cX5_isMove 22 = .ok (.getfield 31, 3) := by decide +kernel
theorem dX5_isMove_25 : decode cX5_isMove 25 = .ok (.iload 4, 2) := by decide +kernel
theorem dX5_isMove_27 : decode cX5_isMove 27 = .ok (.iconst 1, 1) := by decide +kernel
theorem dX5_isMove_28 : decode cX5_isMove 28 = .ok (.isub, 1) := by decide +kernel
theorem dX5_isMove_29 : decode cX5_isMove 29 = .ok (.invokevirtual 100, 3) := by decide +kernel
theorem dX5_isMove_32 : decode cX5_isMove 32 = .ok (.ifCond .ne 5, 3) := by decide +kernel
theorem dX5_isMove_35 : decode cX5_isMove 35 = .ok (.iconst 0, 1) := by decide +kernel
theorem dX5_isMove_36 : decode cX5_isMove 36 = .ok (.ireturn, 1) := by decide +kernel
theorem dX5_isMove_37 : decode cX5_isMove 37 = .ok (.iload 4, 2) := by decide +kernel
theorem dX5_isMove_39 : decode cX5_isMove 39 = .ok (.istore_n 2, 1) := by decide +kernel
theorem dX5_isMove_40 : decode cX5_isMove 40 = .ok (.iload_n 3, 1) := by decide +kernel
theorem dX5_isMove_41 : decode cX5_isMove 41 = .ok (.bipush 10, 2) := by decide +kernel
theorem dX5_isMove_43 : decode cX5_isMove 43 = .ok (.idiv, 1) := by decide +kernel
theorem dX5_isMove_44 : decode cX5_isMove 44 = .ok (.istore_n 3, 1) := by decide +kernel
theorem dX5_isMove_45 : decode cX5_isMove 45 = .ok (.goto (-40), 3) := by decide +kernel
theorem dX5_isMove_48 : decode cX5_isMove 48 = .ok (.iconst 1, 1) := by decide +kernel
theorem dX5_isMove_49 : decode cX5_isMove 49 = .ok (.ireturn, 1) := by decide +kernel
set_option maxRecDepth 20000 in
theorem ggX5_endAfterMove_X2_copyFrom : GoodIn wsX5_endAfterMove wsX2_copyFrom := goodIn_r _ [7, 8, 9, 10, 11, 12, 82, 83, 84, 85, 86, 87] (by decide +kernel) (by decide +kernel)
set_option maxRecDepth 20000 in
theorem gX5_endAfterMove_X2_copyFrom : GoodIn wsX5_endAfterMove (wsV RX5 131 RX2 yX2_copyFrom wsX2_copyFrom) := goodIn_app (goodIn_of _ (by decide +kernel)) ggX5_endAfterMove_X2_copyFrom
set_option maxRecDepth 20000 in
theorem ggX5_endAfterMove_X2_carryOut : GoodIn wsX5_endAfterMove wsX2_carryOut := goodIn_r _ [16, 11, 17, 18, 19, 20, 12, 9, 10, 8, 21, 22, 23, 6, 24, 25, 26, 27, 28, 29, 30, 31, 32, 33, 34, 35, 36, 37, 38, 39, 40, 41, 42, 43, 44, 45, 46, 47, 48, 49, 50, 51, 52, 53, 54, 55, 56, 57, 58, 59, 60, 61, 62, 63, 64, 65, 66, 82, 83, 84, 85, 86, 87, 88, 89, 90, 91, 92, 93] (by decide +kernel) (by decide +kernel)
set_option maxRecDepth 20000 in
theorem gX5_endAfterMove_X2_carryOut : GoodIn wsX5_endAfterMove (wsV RX5 162 RX2 yX2_carryOut wsX2_carryOut) := goodIn_app (goodIn_of _ (by decide +kernel)) ggX5_endAfterMove_X2_carryOut
set_option maxRecDepth 20000 in
theorem ggX5_endAfterMove_X2_passHoursToEnd : GoodIn wsX5_endAfterMove wsX2_passHoursToEnd := goodIn_r _ [70, 25, 26, 27, 6, 28, 9, 8, 29, 30, 31, 32, 33, 34, 35, 36, 37, 38, 39, 40, 41, 21, 22, 23, 24, 10, 42, 43, 44, 45, 12, 46, 47, 48, 19, 49, 50, 51, 52, 53, 54, 55, 56, 57, 58, 59, 60, 61, 62, 11, 63, 64, 65, 66, 82, 83, 84, 85, 86, 87, 88, 89, 90, 91, 92, 93] (by decide +kernel) (by decide +kernel)
set_option maxRecDepth 20000 in
theorem gX5_endAfterMove_X2_passHoursToEnd : GoodIn wsX5_endAfterMove (wsV RX5 137 RX2 yX2_passHoursToEnd wsX2_passHoursToEnd) := goodIn_app (goodIn_of _ (by decide +kernel)) ggX5_endAfterMove_X2_passHoursToEnd
set_option maxRecDepth 20000 in
theorem ggX5_endAfterMove_X2_verdict : GoodIn wsX5_endAfterMove wsX2_verdict := goodIn_r _ [28, 9, 8, 29, 30, 31, 32, 33, 34, 35, 36, 37, 38, 6, 39, 40, 41, 82, 83, 84, 85, 86, 87, 88, 89, 90, 91, 92, 93] (by decide +kernel) (by decide +kernel)
set_option maxRecDepth 20000 in
theorem gX5_endAfterMove_X2_verdict : GoodIn wsX5_endAfterMove (wsV RX5 140 RX2 yX2_verdict wsX2_verdict) := goodIn_app (goodIn_of _ (by decide +kernel)) ggX5_endAfterMove_X2_verdict
theorem dX5_endAfterMove_0 : decode cX5_endAfterMove 0 = .ok (.aload_n 0, 1) := by decide +kernel
theorem dX5_endAfterMove_1 : decode cX5_endAfterMove 1 = .ok (.getfield 35, 3) := by decide +kernel
theorem dX5_endAfterMove_4 : decode cX5_endAfterMove 4 = .ok (.aload_n 0, 1) := by decide +kernel
theorem dX5_endAfterMove_5 : decode cX5_endAfterMove 5 = .ok (.getfield 31, 3) := by decide +kernel
theorem dX5_endAfterMove_8 : decode cX5_endAfterMove 8 = .ok (.invokevirtual 131, 3) := by decide +kernel
theorem dX5_endAfterMove_11 : decode cX5_endAfterMove 11 = .ok (.iload_n 1, 1) := by decide +kernel
theorem dX5_endAfterMove_12 : decode cX5_endAfterMove 12 = .ok (.istore_n 2, 1) := by decide +kernel
theorem dX5_endAfterMove_13 : decode cX5_endAfterMove 13 = .ok (.iload_n 2, 1) := by decide +kernel
theorem dX5_endAfterMove_14 : decode cX5_endAfterMove 14 = .ok (.ifCond .le 25, 3) := by decide +kernel
theorem dX5_endAfterMove_17 : decode cX5_endAfterMove 17 = .ok (.aload_n 0, 1) := by decide +kernel
theorem dX5_endAfterMove_18 : decode cX5_endAfterMove 18 = .ok (.getfield 35, 3) := by decide +kernel
theorem dX5_endAfterMove_21 : decode cX5_endAfterMove 21 = .ok (.iconst 1, 1) := by decide +kernel
theorem dX5_endAfterMove_22 : decode cX5_endAfterMove 22 = .ok (.iload_n 2, 1) := by decide +kernel
theorem dX5_endAfterMove_23 : decode cX5_endAfterMove 23 = .ok (.bipush 10, 2) := by decide +kernel
theorem dX5_endAfterMove_25 : decode cX5_endAfterMove 25 = .ok (.irem, 1) := by decide +kernel
theorem dX5_endAfterMove_26 : decode cX5_endAfterMove 26 = .ok (.iconst 1, 1) := by decide +kernel
theorem dX5_endAfterMove_27 : decode cX5_endAfterMove 27 = .ok (.isub, 1) := by decide +kernel
theorem dX5_endAfterMove_28 : decode cX5_endAfterMove 28 = .ok (.invokevirtual 162, 3) := by decide +kernel
theorem dX5_endAfterMove_31 : decode cX5_endAfterMove 31 = .ok (.iload_n 2, 1) := by decide +kernel
theorem dX5_endAfterMove_32 : decode cX5_endAfterMove 32 = .ok (.bipush 10, 2) := by decide +kernel
theorem dX5_endAfterMove_34 : decode cX5_endAfterMove 34 = .ok (.idiv, 1) := by decide +kernel
theorem dX5_endAfterMove_35 : decode cX5_endAfterMove 35 = .ok (.istore_n 2, 1) := by decide +kernel
theorem dX5_endAfterMove_36 : decode cX5_endAfterMove 36 = .ok (.goto (-23), 3) := by decide +kernel
theorem dX5_endAfterMove_39 : decode cX5_endAfterMove 39 = .ok (.aload_n 0, 1) := by decide +kernel
theorem dX5_endAfterMove_40 : decode cX5_endAfterMove 40 = .ok (.getfield 35, 3) := by decide +kernel
theorem dX5_endAfterMove_43 : decode cX5_endAfterMove 43 = .ok (.invokevirtual 137, 3) := by decide +kernel
theorem dX5_endAfterMove_46 : decode cX5_endAfterMove 46 = .ok (.pop, 1) := by decide +kernel
theorem dX5_endAfterMove_47 : decode cX5_endAfterMove 47 = .ok (.aload_n 0, 1) := by decide +kernel
theorem dX5_endAfterMove_48 : decode cX5_endAfterMove 48 = .ok (.getfield 35, 3) := by decide +kernel
theorem dX5_endAfterMove_51 : decode cX5_endAfterMove 51 = .ok (.invokevirtual 140, 3) := by decide +kernel
theorem dX5_endAfterMove_54 : decode cX5_endAfterMove 54 = .ok (.ireturn, 1) := by decide +kernel
theorem dX5_figuresOf_0 : decode cX5_figuresOf 0 = .ok (.iconst 0, 1) := by decide +kernel
theorem dX5_figuresOf_1 : decode cX5_figuresOf 1 = .ok (.istore_n 1, 1) := by decide +kernel
theorem dX5_figuresOf_2 : decode cX5_figuresOf 2 = .ok (.iload_n 0, 1) := by decide +kernel
theorem dX5_figuresOf_3 : decode cX5_figuresOf 3 = .ok (.istore_n 2, 1) := by decide +kernel
theorem dX5_figuresOf_4 : decode cX5_figuresOf 4 = .ok (.iload_n 2, 1) := by decide +kernel
theorem dX5_figuresOf_5 : decode cX5_figuresOf 5 = .ok (.ifCond .le 14, 3) := by decide +kernel
theorem dX5_figuresOf_8 : decode cX5_figuresOf 8 = .ok (.iinc 1 1, 3) := by decide +kernel
theorem dX5_figuresOf_11 : decode cX5_figuresOf 11 = .ok (.iload_n 2, 1) := by decide +kernel
theorem dX5_figuresOf_12 : decode cX5_figuresOf 12 = .ok (.bipush 10, 2) := by decide +kernel
theorem dX5_figuresOf_14 : decode cX5_figuresOf 14 = .ok (.idiv, 1) := by decide +kernel
theorem dX5_figuresOf_15 : decode cX5_figuresOf 15 = .ok (.istore_n 2, 1) := by decide +kernel
theorem dX5_figuresOf_16 : decode cX5_figuresOf 16 = .ok (.goto (-12), 3) := by decide +kernel
theorem dX5_figuresOf_19 : decode cX5_figuresOf 19 = .ok (.iload_n 1, 1) := by decide +kernel
theorem dX5_figuresOf_20 : decode cX5_figuresOf 20 = .ok (.ireturn, 1) := by decide +kernel
set_option maxRecDepth 20000 in
theorem ggX5_fitsWhatIsSeen_X2_copyFrom : GoodIn wsX5_fitsWhatIsSeen wsX2_copyFrom := goodIn_r _ [9, 10, 11, 12, 13, 14, 83, 84, 85, 86, 87, 88] (by decide +kernel) (by decide +kernel)
set_option maxRecDepth 20000 in
theorem gX5_fitsWhatIsSeen_X2_copyFrom : GoodIn wsX5_fitsWhatIsSeen (wsV RX5 131 RX2 yX2_copyFrom wsX2_copyFrom) := goodIn_app (goodIn_of _ (by decide +kernel)) ggX5_fitsWhatIsSeen_X2_copyFrom
set_option maxRecDepth 20000 in
theorem ggX5_fitsWhatIsSeen_X3_fit : GoodIn wsX5_fitsWhatIsSeen wsX3_fit := goodIn_r _ [19, 20, 21, 22, 23, 24, 25, 26, 8, 27, 11, 28, 29, 30, 31, 10, 89, 90, 91, 92, 83, 84, 85, 86, 87, 88] (by decide +kernel) (by decide +kernel)
set_option maxRecDepth 20000 in
theorem gX5_fitsWhatIsSeen_X3_fit : GoodIn wsX5_fitsWhatIsSeen (wsV RX5 221 RX3 yX3_fit wsX3_fit) := goodIn_app (goodIn_of _ (by decide +kernel)) ggX5_fitsWhatIsSeen_X3_fit
set_option maxRecDepth 20000 in
theorem ggX5_fitsWhatIsSeen_X2_passHour : GoodIn wsX5_fitsWhatIsSeen wsX2_passHour := goodIn_r _ [35, 12, 10, 36, 37, 38, 8, 39, 11, 40, 41, 42, 43, 44, 45, 46, 47, 48, 49, 50, 51, 52, 53, 54, 55, 56, 14, 57, 58, 59, 60, 61, 62, 25, 26, 27, 63, 64, 65, 66, 67, 68, 69, 70, 71, 13, 72, 29, 30, 31, 83, 84, 85, 86, 87, 88, 93, 94, 95, 96, 97, 98] (by decide +kernel) (by decide +kernel)
set_option maxRecDepth 20000 in
theorem gX5_fitsWhatIsSeen_X2_passHour : GoodIn wsX5_fitsWhatIsSeen (wsV RX5 107 RX2 yX2_passHour wsX2_passHour) := goodIn_app (goodIn_of _ (by decide +kernel)) ggX5_fitsWhatIsSeen_X2_passHour
theorem dX5_fitsWhatIsSeen_0 : decode cX5_fitsWhatIsSeen 0 = .ok (.aload_n 0, 1) := by decide +kernel
theorem dX5_fitsWhatIsSeen_1 : decode cX5_fitsWhatIsSeen 1 = .ok (.getfield 35, 3) := by decide +kernel
theorem dX5_fitsWhatIsSeen_4 : decode cX5_fitsWhatIsSeen 4 = .ok (.aload_n 0, 1) := by decide +kernel
theorem dX5_fitsWhatIsSeen_5 : decode cX5_fitsWhatIsSeen 5 = .ok (.getfield 31, 3) := by decide +kernel
theorem dX5_fitsWhatIsSeen_8 : decode cX5_fitsWhatIsSeen 8 = .ok (.invokevirtual 131, 3) := by decide +kernel
theorem dX5_fitsWhatIsSeen_11 : decode cX5_fitsWhatIsSeen 11 = .ok (.aload_n 0, 1) := by decide +kernel
theorem dX5_fitsWhatIsSeen_12 : decode cX5_fitsWhatIsSeen 12 = .ok (.getfield 35, 3) := by decide +kernel
theorem dX5_fitsWhatIsSeen_15 : decode cX5_fitsWhatIsSeen 15 = .ok (.iload_n 1, 1) := by decide +kernel
theorem dX5_fitsWhatIsSeen_16 : decode cX5_fitsWhatIsSeen 16 = .ok (.putfield 218, 3) := by decide +kernel
theorem dX5_fitsWhatIsSeen_19 : decode cX5_fitsWhatIsSeen 19 = .ok (.iconst 0, 1) := by decide +kernel
theorem dX5_fitsWhatIsSeen_20 : decode cX5_fitsWhatIsSeen 20 = .ok (.istore_n 2, 1) := by decide +kernel
theorem dX5_fitsWhatIsSeen_21 : decode cX5_fitsWhatIsSeen 21 = .ok (.iload_n 2, 1) := by decide +kernel
theorem dX5_fitsWhatIsSeen_22 : decode cX5_fitsWhatIsSeen 22 = .ok (.bipush 9, 2) := by decide +kernel
theorem dX5_fitsWhatIsSeen_24 : decode cX5_fitsWhatIsSeen 24 = .ok (.if_icmp .gt 34, 3) := by decide +kernel
theorem dX5_fitsWhatIsSeen_27 : decode cX5_fitsWhatIsSeen 27 = .ok (.aload_n 0, 1) := by decide +kernel
theorem dX5_fitsWhatIsSeen_28 : decode cX5_fitsWhatIsSeen 28 = .ok (.getfield 56, 3) := by decide +kernel
theorem dX5_fitsWhatIsSeen_31 : decode cX5_fitsWhatIsSeen 31 = .ok (.aload_n 0, 1) := by decide +kernel
theorem dX5_fitsWhatIsSeen_32 : decode cX5_fitsWhatIsSeen 32 = .ok (.getfield 35, 3) := by decide +kernel
theorem dX5_fitsWhatIsSeen_35 : decode cX5_fitsWhatIsSeen 35 = .ok (.iload_n 2, 1) := by decide +kernel
theorem dX5_fitsWhatIsSeen_36 : decode cX5_fitsWhatIsSeen 36 = .ok (.invokevirtual 221, 3) := by decide +kernel
theorem dX5_fitsWhatIsSeen_39 : decode cX5_fitsWhatIsSeen 39 = .ok (.ifCond .ne 5, 3) := by decide +kernel
theorem dX5_fitsWhatIsSeen_42 : decode cX5_fitsWhatIsSeen 42 = .ok (.iconst 0, 1) := by decide +kernel
theorem dX5_fitsWhatIsSeen_43 : decode cX5_fitsWhatIsSeen 43 = .ok (.ireturn, 1) := by decide +kernel
theorem dX5_fitsWhatIsSeen_44 : decode cX5_fitsWhatIsSeen 44 = .ok (.aload_n 0, 1) := by decide +kernel
theorem dX5_fitsWhatIsSeen_45 : decode cX5_fitsWhatIsSeen 45 = .ok (.getfield 35, 3) := by decide +kernel
theorem dX5_fitsWhatIsSeen_48 : decode cX5_fitsWhatIsSeen 48 = .ok (.invokevirtual 107, 3) := by decide +kernel
theorem dX5_fitsWhatIsSeen_51 : decode cX5_fitsWhatIsSeen 51 = .ok (.pop, 1) := by decide +kernel
theorem dX5_fitsWhatIsSeen_52 : decode cX5_fitsWhatIsSeen 52 = .ok (.iinc 2 1, 3) := by decide +kernel
theorem dX5_fitsWhatIsSeen_55 : decode cX5_fitsWhatIsSeen 55 = .ok (.goto (-34), 3) := by decide +kernel
theorem dX5_fitsWhatIsSeen_58 : decode cX5_fitsWhatIsSeen 58 = .ok (.iconst 1, 1) := by decide +kernel
theorem dX5_fitsWhatIsSeen_59 : decode cX5_fitsWhatIsSeen 59 = .ok (.ireturn, 1) := by decide +kernel
set_option maxRecDepth 20000 in
theorem ggX5_endIsYesFrom_X2_copyFrom : GoodIn wsX5_endIsYesFrom wsX2_copyFrom := goodIn_r _ [8, 9, 10, 11, 12, 13, 76, 77, 78, 79, 80, 81] (by decide +kernel) (by decide +kernel)
set_option maxRecDepth 20000 in
theorem gX5_endIsYesFrom_X2_copyFrom : GoodIn wsX5_endIsYesFrom (wsV RX5 131 RX2 yX2_copyFrom wsX2_copyFrom) := goodIn_app (goodIn_of _ (by decide +kernel)) ggX5_endIsYesFrom_X2_copyFrom
set_option maxRecDepth 20000 in
theorem ggX5_endIsYesFrom_X2_passHoursToEnd : GoodIn wsX5_endIsYesFrom wsX2_passHoursToEnd := goodIn_r _ [17, 18, 19, 20, 7, 21, 10, 9, 22, 23, 24, 25, 26, 27, 28, 29, 30, 31, 32, 33, 34, 35, 36, 37, 38, 11, 39, 40, 41, 42, 13, 43, 44, 45, 46, 47, 48, 49, 50, 51, 52, 53, 54, 55, 56, 57, 58, 59, 60, 12, 61, 62, 63, 64, 76, 77, 78, 79, 80, 81, 82, 83, 84, 85, 86, 87] (by decide +kernel) (by decide +kernel)
set_option maxRecDepth 20000 in
theorem gX5_endIsYesFrom_X2_passHoursToEnd : GoodIn wsX5_endIsYesFrom (wsV RX5 137 RX2 yX2_passHoursToEnd wsX2_passHoursToEnd) := goodIn_app (goodIn_of _ (by decide +kernel)) ggX5_endIsYesFrom_X2_passHoursToEnd
set_option maxRecDepth 20000 in
theorem ggX5_endIsYesFrom_X2_verdict : GoodIn wsX5_endIsYesFrom wsX2_verdict := goodIn_r _ [21, 10, 9, 22, 23, 24, 25, 26, 27, 28, 29, 30, 31, 7, 32, 33, 34, 76, 77, 78, 79, 80, 81, 82, 83, 84, 85, 86, 87] (by decide +kernel) (by decide +kernel)
set_option maxRecDepth 20000 in
theorem gX5_endIsYesFrom_X2_verdict : GoodIn wsX5_endIsYesFrom (wsV RX5 140 RX2 yX2_verdict wsX2_verdict) := goodIn_app (goodIn_of _ (by decide +kernel)) ggX5_endIsYesFrom_X2_verdict
theorem dX5_endIsYesFrom_0 : decode cX5_endIsYesFrom 0 = .ok (.aload_n 0, 1) := by decide +kernel
theorem dX5_endIsYesFrom_1 : decode cX5_endIsYesFrom 1 = .ok (.getfield 35, 3) := by decide +kernel
theorem dX5_endIsYesFrom_4 : decode cX5_endIsYesFrom 4 = .ok (.aload_n 0, 1) := by decide +kernel
theorem dX5_endIsYesFrom_5 : decode cX5_endIsYesFrom 5 = .ok (.getfield 31, 3) := by decide +kernel
theorem dX5_endIsYesFrom_8 : decode cX5_endIsYesFrom 8 = .ok (.invokevirtual 131, 3) := by decide +kernel
theorem dX5_endIsYesFrom_11 : decode cX5_endIsYesFrom 11 = .ok (.aload_n 0, 1) := by decide +kernel
theorem dX5_endIsYesFrom_12 : decode cX5_endIsYesFrom 12 = .ok (.getfield 35, 3) := by decide +kernel
theorem dX5_endIsYesFrom_15 : decode cX5_endIsYesFrom 15 = .ok (.iload_n 1, 1) := by decide +kernel
theorem dX5_endIsYesFrom_16 : decode cX5_endIsYesFrom 16 = .ok (.putfield 218, 3) := by decide +kernel
theorem dX5_endIsYesFrom_19 : decode cX5_endIsYesFrom 19 = .ok (.aload_n 0, 1) := by decide +kernel
theorem dX5_endIsYesFrom_20 : decode cX5_endIsYesFrom 20 = .ok (.getfield 35, 3) := by decide +kernel
theorem dX5_endIsYesFrom_23 : decode cX5_endIsYesFrom 23 = .ok (.invokevirtual 137, 3) := by decide +kernel
theorem dX5_endIsYesFrom_26 : decode cX5_endIsYesFrom 26 = .ok (.pop, 1) := by decide +kernel
theorem dX5_endIsYesFrom_27 : decode cX5_endIsYesFrom 27 = .ok (.aload_n 0, 1) := by decide +kernel
theorem dX5_endIsYesFrom_28 : decode cX5_endIsYesFrom 28 = .ok (.getfield 35, 3) := by decide +kernel
theorem dX5_endIsYesFrom_31 : decode cX5_endIsYesFrom 31 = .ok (.invokevirtual 140, 3) := by decide +kernel
theorem dX5_endIsYesFrom_34 : decode cX5_endIsYesFrom 34 = .ok (.iconst 1, 1) := by decide +kernel
theorem dX5_endIsYesFrom_35 : decode cX5_endIsYesFrom 35 = .ok (.if_icmp .ne 7, 3) := by decide +kernel
theorem dX5_endIsYesFrom_38 : decode cX5_endIsYesFrom 38 = .ok (.iconst 1, 1) := by decide +kernel
theorem dX5_endIsYesFrom_39 : decode cX5_endIsYesFrom 39 = .ok (.goto 4, 3) := by decide +kernel
theorem dX5_endIsYesFrom_42 : decode cX5_endIsYesFrom 42 = .ok (.iconst 0, 1) := by decide +kernel
theorem dX5_endIsYesFrom_43 : decode cX5_endIsYesFrom 43 = .ok (.ireturn, 1) := by decide +kernel
set_option maxRecDepth 20000 in
theorem ggX5_ordersWith_X5_factorial : GoodIn wsX5_ordersWith wsX5_factorial := goodIn_r _ [4, 5] (by decide +kernel) (by decide +kernel)
set_option maxRecDepth 20000 in
theorem gX5_ordersWith_X5_factorial : GoodIn wsX5_ordersWith (va_wsS RX5 183 yX5_factorial wsX5_factorial) := goodIn_app (goodIn_of _ (by decide +kernel)) ggX5_ordersWith_X5_factorial
theorem dX5_ordersWith_0 : decode cX5_ordersWith 0 = .ok (.iload_n 0, 1) := by decide +kernel
theorem dX5_ordersWith_1 : decode cX5_ordersWith 1 = .ok (.invokestatic 183, 3) := by decide +kernel
theorem dX5_ordersWith_4 : decode cX5_ordersWith 4 = .ok (.iload_n 1, 1) := by decide +kernel
theorem dX5_ordersWith_5 : decode cX5_ordersWith 5 = .ok (.invokestatic 183, 3) := by decide +kernel
theorem dX5_ordersWith_8 : decode cX5_ordersWith 8 = .ok (.imul, 1) := by decide +kernel
theorem dX5_ordersWith_9 : decode cX5_ordersWith 9 = .ok (.ireturn, 1) := by decide +kernel
theorem dX5_factorial_0 : decode cX5_factorial 0 = .ok (.iload_n 0, 1) := by decide +kernel
theorem dX5_factorial_1 : decode cX5_factorial 1 = .ok (.ifCond .lt 11, 3) := by decide +kernel
theorem dX5_factorial_4 : decode cX5_factorial 4 = .ok (.iload_n 0, 1) := by decide +kernel
theorem dX5_factorial_5 : decode cX5_factorial 5 = .ok (.getstatic 225, 3) := by decide +kernel
theorem dX5_factorial_8 : decode cX5_factorial 8 = .ok (.arraylength, 1) := by decide +kernel
theorem dX5_factorial_9 : decode cX5_factorial 9 = .ok (.if_icmp .lt 7, 3) := by decide +kernel
theorem dX5_factorial_12 : decode cX5_factorial 12 = .ok (.iconst 1, 1) := by decide +kernel
theorem dX5_factorial_13 : decode cX5_factorial 13 = .ok (.goto 8, 3) := by decide +kernel
theorem dX5_factorial_16 : decode cX5_factorial 16 = .ok (.getstatic 225, 3) := by decide +kernel
theorem dX5_factorial_19 : decode cX5_factorial 19 = .ok (.iload_n 0, 1) := by decide +kernel
theorem dX5_factorial_20 : decode cX5_factorial 20 = .ok (.iaload, 1) := by decide +kernel
theorem dX5_factorial_21 : decode cX5_factorial 21 = .ok (.ireturn, 1) := by decide +kernel
theorem dX5_power_0 : decode cX5_power 0 = .ok (.iconst 1, 1) := by decide +kernel
theorem dX5_power_1 : decode cX5_power 1 = .ok (.istore_n 2, 1) := by decide +kernel
theorem dX5_power_2 : decode cX5_power 2 = .ok (.iconst 0, 1) := by decide +kernel
theorem dX5_power_3 : decode cX5_power 3 = .ok (.istore_n 3, 1) := by decide +kernel
theorem dX5_power_4 : decode cX5_power 4 = .ok (.iload_n 3, 1) := by decide +kernel
theorem dX5_power_5 : decode cX5_power 5 = .ok (.iload_n 1, 1) := by decide +kernel
theorem dX5_power_6 : decode cX5_power 6 = .ok (.if_icmp .ge 13, 3) := by decide +kernel
theorem dX5_power_9 : decode cX5_power 9 = .ok (.iload_n 2, 1) := by decide +kernel
theorem dX5_power_10 : decode cX5_power 10 = .ok (.iload_n 0, 1) := by decide +kernel
theorem dX5_power_11 : decode cX5_power 11 = .ok (.imul, 1) := by decide +kernel
theorem dX5_power_12 : decode cX5_power 12 = .ok (.istore_n 2, 1) := by decide +kernel
theorem dX5_power_13 : decode cX5_power 13 = .ok (.iinc 3 1, 3) := by decide +kernel
theorem dX5_power_16 : decode cX5_power 16 = .ok (.goto (-12), 3) := by decide +kernel
theorem dX5_power_19 : decode cX5_power 19 = .ok (.iload_n 2, 1) := by decide +kernel
theorem dX5_power_20 : decode cX5_power 20 = .ok (.ireturn, 1) := by decide +kernel
set_option maxRecDepth 20000 in
theorem ggX5_partOfFraction_X5_commonDivisor : GoodIn wsX5_partOfFraction wsX5_commonDivisor := goodIn_r _ [8] (by decide +kernel) (by decide +kernel)
set_option maxRecDepth 20000 in
theorem gX5_partOfFraction_X5_commonDivisor : GoodIn wsX5_partOfFraction (va_wsS RX5 233 yX5_commonDivisor wsX5_commonDivisor) := goodIn_app (goodIn_of _ (by decide +kernel)) ggX5_partOfFraction_X5_commonDivisor
theorem dX5_partOfFraction_0 : decode cX5_partOfFraction 0 = .ok (.iload_n 0, 1) := by decide +kernel
theorem dX5_partOfFraction_1 : decode cX5_partOfFraction 1 = .ok (.invokestatic 228, 3) := by decide +kernel
theorem dX5_partOfFraction_4 : decode cX5_partOfFraction 4 = .ok (.iload_n 1, 1) := by decide +kernel
theorem dX5_partOfFraction_5 : decode cX5_partOfFraction 5 = .ok (.invokestatic 233, 3) := by decide +kernel
theorem dX5_partOfFraction_8 : decode cX5_partOfFraction 8 = .ok (.istore_n 3, 1) := by decide +kernel
theorem dX5_partOfFraction_9 : decode cX5_partOfFraction 9 = .ok (.iload_n 3, 1) := by decide +kernel
theorem dX5_partOfFraction_10 : decode cX5_partOfFraction 10 = .ok (.iconst 1, 1) := by decide +kernel
theorem dX5_partOfFraction_11 : decode cX5_partOfFraction 11 = .ok (.if_icmp .ge 6, 3) := by decide +kernel
theorem dX5_partOfFraction_14 : decode cX5_partOfFraction 14 = .ok (.bipush (-2), 2) := by decide +kernel
theorem dX5_partOfFraction_16 : decode cX5_partOfFraction 16 = .ok (.ireturn, 1) := by decide +kernel
theorem dX5_partOfFraction_17 : decode cX5_partOfFraction 17 = .ok (.iload_n 2, 1) := by decide +kernel
theorem dX5_partOfFraction_18 : decode cX5_partOfFraction 18 = .ok (.ifCond .eq 7, 3) := by decide +kernel
theorem dX5_partOfFraction_21 : decode cX5_partOfFraction 21 = .ok (.iload_n 0, 1) := by decide +kernel
theorem dX5_partOfFraction_22 : decode cX5_partOfFraction 22 = .ok (.goto 4, 3) := by decide +kernel
theorem dX5_partOfFraction_25 : decode cX5_partOfFraction 25 = .ok (.iload_n 1, 1) := by decide +kernel
theorem dX5_partOfFraction_26 : decode cX5_partOfFraction 26 = .ok (.iload_n 3, 1) := by decide +kernel
theorem dX5_partOfFraction_27 : decode cX5_partOfFraction 27 = .ok (.idiv, 1) := by decide +kernel
theorem dX5_partOfFraction_28 : decode cX5_partOfFraction 28 = .ok (.ireturn, 1) := by decide +kernel
theorem dX5_commonDivisor_0 : decode cX5_commonDivisor 0 = .ok (.iload_n 0, 1) := by decide +kernel
theorem dX5_commonDivisor_1 : decode cX5_commonDivisor 1 = .ok (.istore_n 2, 1) := by decide +kernel
theorem dX5_commonDivisor_2 : decode cX5_commonDivisor 2 = .ok (.iload_n 1, 1) := by decide +kernel
theorem dX5_commonDivisor_3 : decode cX5_commonDivisor 3 = .ok (.istore_n 3, 1) := by decide +kernel
theorem dX5_commonDivisor_4 : decode cX5_commonDivisor 4 = .ok (.iconst 0, 1) := by decide +kernel
theorem dX5_commonDivisor_5 : decode cX5_commonDivisor 5 = .ok (.istore 4, 2) := by decide +kernel
theorem dX5_commonDivisor_7 : decode cX5_commonDivisor 7 = .ok (.iload 4, 2) := by decide +kernel
theorem dX5_commonDivisor_9 : decode cX5_commonDivisor 9 = .ok (.bipush 64, 2) := by decide +kernel
theorem dX5_commonDivisor_11 : decode cX5_commonDivisor 11 = .ok (.if_icmp .ge 23, 3) := by decide +kernel
theorem dX5_commonDivisor_14 : decode cX5_commonDivisor 14 = .ok (.iload_n 3, 1) := by decide +kernel
theorem dX5_commonDivisor_15 : decode cX5_commonDivisor 15 = .ok (.ifCond .le 19, 3) := by decide +kernel
theorem dX5_commonDivisor_18 : decode cX5_commonDivisor 18 = .ok (.iload_n 2, 1) := by decide +kernel
theorem dX5_commonDivisor_19 : decode cX5_commonDivisor 19 = .ok (.iload_n 3, 1) := by decide +kernel
theorem dX5_commonDivisor_20 : decode cX5_commonDivisor 20 = .ok (.irem, 1) := by decide +kernel
theorem dX5_commonDivisor_21 : decode cX5_commonDivisor 21 = .ok (.istore 5, 2) := by decide +kernel
theorem dX5_commonDivisor_23 : decode cX5_commonDivisor 23 = .ok (.iload_n 3, 1) := by decide +kernel
theorem dX5_commonDivisor_24 : decode cX5_commonDivisor 24 = .ok (.istore_n 2, 1) := by decide +kernel
theorem dX5_commonDivisor_25 : decode cX5_commonDivisor 25 = .ok (.iload 5, 2) := by decide +kernel
theorem dX5_commonDivisor_27 : decode cX5_commonDivisor 27 = .ok (.istore_n 3, 1) := by decide +kernel
theorem dX5_commonDivisor_28 : decode cX5_commonDivisor 28 = .ok (.iinc 4 1, 3) := by decide +kernel
theorem dX5_commonDivisor_31 : decode cX5_commonDivisor 31 = .ok (.goto (-24), 3) := by decide +kernel
theorem dX5_commonDivisor_34 : decode cX5_commonDivisor 34 = .ok (.iload_n 2, 1) := by decide +kernel
theorem dX5_commonDivisor_35 : decode cX5_commonDivisor 35 = .ok (.ireturn, 1) := by decide +kernel
set_option maxRecDepth 20000 in
theorem ggX5_isBestWait_X5_lossOf : GoodIn wsX5_isBestWait wsX5_lossOf := goodIn_r _ [5, 6, 7, 8, 9, 10, 11, 12, 13, 14, 4, 15, 16, 17, 18, 19, 20, 21, 22, 23, 24, 25, 26, 27, 28, 29, 30, 31, 32] (by decide +kernel) (by decide +kernel)
set_option maxRecDepth 20000 in
theorem gX5_isBestWait_X5_lossOf : GoodIn wsX5_isBestWait (wsV RX5 236 RX5 yX5_lossOf wsX5_lossOf) := goodIn_app (goodIn_of _ (by decide +kernel)) ggX5_isBestWait_X5_lossOf
theorem dX5_isBestWait_0 : decode cX5_isBestWait 0 = .ok (.aload_n 0, 1) := by decide +kernel
theorem dX5_isBestWait_1 : decode cX5_isBestWait 1 = .ok (.iload_n 1, 1) := by decide +kernel
theorem dX5_isBestWait_2 : decode cX5_isBestWait 2 = .ok (.iload_n 2, 1) := by decide +kernel
theorem dX5_isBestWait_3 : decode cX5_isBestWait 3 = .ok (.iload_n 3, 1) := by decide +kernel
theorem dX5_isBestWait_4 : decode cX5_isBestWait 4 = .ok (.iload 4, 2) := by decide +kernel
theorem dX5_isBestWait_6 : decode cX5_isBestWait 6 = .ok (.invokevirtual 236, 3) := by decide +kernel
theorem dX5_isBestWait_9 : decode cX5_isBestWait 9 = .ok (.istore 5, 2) := by decide +kernel
theorem dX5_isBestWait_11 : decode cX5_isBestWait 11 = .ok (.iconst 0, 1) := by decide +kernel
theorem dX5_isBestWait_12 : decode cX5_isBestWait 12 = .ok (.istore 6, 2) := by decide +kernel
theorem dX5_isBestWait_14 : decode cX5_isBestWait 14 = .ok (.iload 6, 2) := by decide +kernel
theorem dX5_isBestWait_16 : decode cX5_isBestWait 16 = .ok (.iconst 4, 1) := by decide +kernel
theorem dX5_isBestWait_17 : decode cX5_isBestWait 17 = .ok (.if_icmp .gt 26, 3) := by decide +kernel
theorem dX5_isBestWait_20 : decode cX5_isBestWait 20 = .ok (.aload_n 0, 1) := by decide +kernel
theorem dX5_isBestWait_21 : decode cX5_isBestWait 21 = .ok (.iload_n 1, 1) := by decide +kernel
theorem dX5_isBestWait_22 : decode cX5_isBestWait 22 = .ok (.iload_n 2, 1) := by decide +kernel
theorem dX5_isBestWait_23 : decode cX5_isBestWait 23 = .ok (.iload 6, 2) := by decide +kernel
theorem dX5_isBestWait_25 : decode cX5_isBestWait 25 = .ok (.iload 4, 2) := by decide +kernel
theorem dX5_isBestWait_27 : decode cX5_isBestWait 27 = .ok (.invokevirtual 236, 3) := by decide +kernel
theorem dX5_isBestWait_30 : decode cX5_isBestWait 30 = .ok (.iload 5, 2) := by decide +kernel
theorem dX5_isBestWait_32 : decode cX5_isBestWait 32 = .ok (.if_icmp .ge 5, 3) := by decide +kernel
theorem dX5_isBestWait_35 : decode cX5_isBestWait 35 = .ok (.iconst 0, 1) := by decide +kernel
theorem dX5_isBestWait_36 : decode cX5_isBestWait 36 = .ok (.ireturn, 1) := by decide +kernel
theorem dX5_isBestWait_37 : decode cX5_isBestWait 37 = .ok (.iinc 6 1, 3) := by decide +kernel
theorem dX5_isBestWait_40 : decode cX5_isBestWait 40 = .ok (.goto (-26), 3) := by decide +kernel
theorem dX5_isBestWait_43 : decode cX5_isBestWait 43 = .ok (.iconst 1, 1) := by decide +kernel
theorem dX5_isBestWait_44 : decode cX5_isBestWait 44 = .ok (.ireturn, 1) := by decide +kernel
set_option maxRecDepth 20000 in
theorem ggX5_lossOf_X5_isJuror : GoodIn wsX5_lossOf wsX5_isJuror := goodIn_r _ [11, 1, 12, 13, 14, 15, 16, 17, 18, 19, 20, 21, 22, 23, 24, 25, 26, 27, 28] (by decide +kernel) (by decide +kernel)
set_option maxRecDepth 20000 in
theorem gX5_lossOf_X5_isJuror : GoodIn wsX5_lossOf (wsV RX5 81 RX5 yX5_isJuror wsX5_isJuror) := goodIn_app (goodIn_of _ (by decide +kernel)) ggX5_lossOf_X5_isJuror
theorem dX5_lossOf_0 : decode cX5_lossOf 0 = .ok (.iload_n 3, 1) := by decide +kernel
theorem dX5_lossOf_1 : decode cX5_lossOf 1 = .ok (.iload 4, 2) := by decide +kernel
theorem dX5_lossOf_3 : decode cX5_lossOf 3 = .ok (.if_icmp .lt 14, 3) := by decide +kernel
theorem dX5_lossOf_6 : decode cX5_lossOf 6 = .ok (.iload_n 3, 1) := by decide +kernel
theorem dX5_lossOf_7 : decode cX5_lossOf 7 = .ok (.iload 4, 2) := by decide +kernel
theorem dX5_lossOf_9 : decode cX5_lossOf 9 = .ok (.if_icmp .ne 12, 3) := by decide +kernel
theorem dX5_lossOf_12 : decode cX5_lossOf 12 = .ok (.iload_n 1, 1) := by decide +kernel
theorem dX5_lossOf_13 : decode cX5_lossOf 13 = .ok (.iload_n 2, 1) := by decide +kernel
theorem dX5_lossOf_14 : decode cX5_lossOf 14 = .ok (.if_icmp .ge 7, 3) := by decide +kernel
theorem dX5_lossOf_17 : decode cX5_lossOf 17 = .ok (.iconst 1, 1) := by decide +kernel
theorem dX5_lossOf_18 : decode cX5_lossOf 18 = .ok (.goto 4, 3) := by decide +kernel
theorem dX5_lossOf_21 : decode cX5_lossOf 21 = .ok (.iconst 0, 1) := by decide +kernel
theorem dX5_lossOf_22 : decode cX5_lossOf 22 = .ok (.istore 5, 2) := by decide +kernel
theorem dX5_lossOf_24 : decode cX5_lossOf 24 = .ok (.aload_n 0, 1) := by decide +kernel
theorem dX5_lossOf_25 : decode cX5_lossOf 25 = .ok (.iload_n 1, 1) := by decide +kernel
theorem dX5_lossOf_26 : decode cX5_lossOf 26 = .ok (.invokevirtual 81, 3) := by decide +kernel
theorem dX5_lossOf_29 : decode cX5_lossOf 29 = .ok (.ifCond .eq 20, 3) := by decide +kernel
theorem dX5_lossOf_32 : decode cX5_lossOf 32 = .ok (.aload_n 0, 1) := by decide +kernel
theorem dX5_lossOf_33 : decode cX5_lossOf 33 = .ok (.getfield 19, 3) := by decide +kernel
theorem dX5_lossOf_36 : decode cX5_lossOf 36 = .ok (.getfield 91, 3) := by decide +kernel
theorem dX5_lossOf_39 : decode cX5_lossOf 39 = .ok (.iload_n 1, 1) := by decide +kernel
theorem dX5_lossOf_40 : decode cX5_lossOf 40 = .ok (.iaload, 1) := by decide +kernel
theorem dX5_lossOf_41 : decode cX5_lossOf 41 = .ok (.iconst 1, 1) := by decide +kernel
theorem dX5_lossOf_42 : decode cX5_lossOf 42 = .ok (.if_icmp .ne 7, 3) := by decide +kernel
theorem dX5_lossOf_45 : decode cX5_lossOf 45 = .ok (.iconst 2, 1) := by decide +kernel
theorem dX5_lossOf_46 : decode cX5_lossOf 46 = .ok (.goto 4, 3) := by decide +kernel
theorem dX5_lossOf_49 : decode cX5_lossOf 49 = .ok (.iconst 1, 1) := by decide +kernel
theorem dX5_lossOf_50 : decode cX5_lossOf 50 = .ok (.istore 6, 2) := by decide +kernel
theorem dX5_lossOf_52 : decode cX5_lossOf 52 = .ok (.iload_n 3, 1) := by decide +kernel
theorem dX5_lossOf_53 : decode cX5_lossOf 53 = .ok (.iload 4, 2) := by decide +kernel
theorem dX5_lossOf_55 : decode cX5_lossOf 55 = .ok (.invokestatic 240, 3) := by decide +kernel
theorem dX5_lossOf_58 : decode cX5_lossOf 58 = .ok (.iload 6, 2) := by decide +kernel
theorem dX5_lossOf_60 : decode cX5_lossOf 60 = .ok (.imul, 1) := by decide +kernel
theorem dX5_lossOf_61 : decode cX5_lossOf 61 = .ok (.iload 5, 2) := by decide +kernel
theorem dX5_lossOf_63 : decode cX5_lossOf 63 = .ok (.ifCond .eq 7, 3) := by decide +kernel
theorem dX5_lossOf_66 : decode cX5_lossOf 66 = .ok (.iconst 3, 1) := by decide +kernel
theorem dX5_lossOf_67 : decode cX5_lossOf 67 = .ok (.goto 4, 3) := by decide +kernel
theorem dX5_lossOf_70 : decode cX5_lossOf 70 = .ok (.iconst 0, 1) := by decide +kernel
theorem dX5_lossOf_71 : decode cX5_lossOf 71 = .ok (.iadd, 1) := by decide +kernel
theorem dX5_lossOf_72 : decode cX5_lossOf 72 = .ok (.ireturn, 1) := by decide +kernel
end
section
theorem dX6_init_0 : decode cX6_init 0 = .ok (.aload_n 0, 1) := by decide +kernel
theorem dX6_init_1 : decode cX6_init 1 = .ok (.invokespecial 1, 3) := by decide +kernel
theorem dX6_init_4 : decode cX6_init 4 = .ok (.aload_n 0, 1) := by decide +kernel
theorem dX6_init_5 : decode cX6_init 5 = .ok (.bipush 6, 2) := by decide +kernel
theorem dX6_init_7 : decode cX6_init 7 = .ok (.newarray .int, 2) := by decide +kernel
theorem dX6_init_9 : decode cX6_init 9 = .ok (.putfield 7, 3) := by decide +kernel
theorem dX6_init_12 : decode cX6_init 12 = .ok (.aload_n 0, 1) := by decide +kernel
theorem dX6_init_13 : decode cX6_init 13 = .ok (.bipush 6, 2) := by decide +kernel
theorem dX6_init_15 : decode cX6_init 15 = .ok (.newarray .int, 2) := by decide +kernel
theorem dX6_init_17 : decode cX6_init 17 = .ok (.putfield 13, 3) := by decide +kernel
theorem dX6_init_20 : decode cX6_init 20 = .ok (.aload_n 0, 1) := by decide +kernel
theorem dX6_init_21 : decode cX6_init 21 = .ok (.bipush 30, 2) := by decide +kernel
theorem dX6_init_23 : decode cX6_init 23 = .ok (.newarray .int, 2) := by decide +kernel
theorem dX6_init_25 : decode cX6_init 25 = .ok (.putfield 16, 3) := by decide +kernel
theorem dX6_init_28 : decode cX6_init 28 = .ok (.aload_n 0, 1) := by decide +kernel
theorem dX6_init_29 : decode cX6_init 29 = .ok (.bipush 18, 2) := by decide +kernel
theorem dX6_init_31 : decode cX6_init 31 = .ok (.newarray .int, 2) := by decide +kernel
theorem dX6_init_33 : decode cX6_init 33 = .ok (.putfield 19, 3) := by decide +kernel
theorem dX6_init_36 : decode cX6_init 36 = .ok (.aload_n 0, 1) := by decide +kernel
theorem dX6_init_37 : decode cX6_init 37 = .ok (.bipush 6, 2) := by decide +kernel
theorem dX6_init_39 : decode cX6_init 39 = .ok (.newarray .int, 2) := by decide +kernel
theorem dX6_init_41 : decode cX6_init 41 = .ok (.putfield 22, 3) := by decide +kernel
theorem dX6_init_44 : decode cX6_init 44 = .ok (.aload_n 0, 1) := by decide +kernel
theorem dX6_init_45 : decode cX6_init 45 = .ok (.bipush 56, 2) := by decide +kernel
theorem dX6_init_47 : decode cX6_init 47 = .ok (.newarray .int, 2) := by decide +kernel
theorem dX6_init_49 : decode cX6_init 49 = .ok (.putfield 25, 3) := by decide +kernel
theorem dX6_init_52 : decode cX6_init 52 = .ok (.aload_n 0, 1) := by decide +kernel
theorem dX6_init_53 : decode cX6_init 53 = .ok (.sipush 210, 3) := by decide +kernel
theorem dX6_init_56 : decode cX6_init 56 = .ok (.newarray .int, 2) := by decide +kernel
theorem dX6_init_58 : decode cX6_init 58 = .ok (.putfield 28, 3) := by decide +kernel
theorem dX6_init_61 : decode cX6_init 61 = .ok (.aload_n 0, 1) := by decide +kernel
theorem dX6_init_62 : decode cX6_init 62 = .ok (.bipush 6, 2) := by decide +kernel
theorem dX6_init_64 : decode cX6_init 64 = .ok (.newarray .int, 2) := by decide +kernel
theorem dX6_init_66 : decode cX6_init 66 = .ok (.putfield 31, 3) := by decide +kernel
theorem dX6_init_69 : decode cX6_init 69 = .ok (.aload_n 0, 1) := by decide +kernel
theorem dX6_init_70 : decode cX6_init 70 = .ok (.bipush 6, 2) := by decide +kernel
theorem dX6_init_72 : decode cX6_init 72 = .ok (.newarray .int, 2) := by decide +kernel
theorem dX6_init_74 : decode cX6_init 74 = .ok (.putfield 34, 3) := by decide +kernel
theorem dX6_init_77 : decode cX6_init 77 = .ok (.aload_n 0, 1) := by decide +kernel
theorem dX6_init_78 : decode cX6_init 78 = .ok (.bipush 6, 2) := by decide +kernel
theorem dX6_init_80 : decode cX6_init 80 = .ok (.newarray .int, 2) := by decide +kernel
theorem dX6_init_82 : decode cX6_init 82 = .ok (.putfield 37, 3) := by decide +kernel
theorem dX6_init_85 : decode cX6_init 85 = .ok (.aload_n 0, 1) := by decide +kernel
theorem dX6_init_86 : decode cX6_init 86 = .ok (.iconst 2, 1) := by decide +kernel
theorem dX6_init_87 : decode cX6_init 87 = .ok (.newarray .boolean, 2) := by decide +kernel
theorem dX6_init_89 : decode cX6_init 89 = .ok (.putfield 40, 3) := by decide +kernel
theorem dX6_init_92 : decode cX6_init 92 = .ok (.aload_n 0, 1) := by decide +kernel
theorem dX6_init_93 : decode cX6_init 93 = .ok (.bipush 30, 2) := by decide +kernel
theorem dX6_init_95 : decode cX6_init 95 = .ok (.newarray .int, 2) := by decide +kernel
theorem dX6_init_97 : decode cX6_init 97 = .ok (.putfield 44, 3) := by decide +kernel
theorem dX6_init_100 : decode cX6_init 100 = .ok (.aload_n 0, 1) := by decide +kernel
theorem dX6_init_101 : decode cX6_init 101 = .ok (.iconst 1, 1) := by decide +kernel
theorem dX6_init_102 : decode cX6_init 102 = .ok (.putfield 47, 3) := by decide +kernel
theorem dX6_init_105 : decode cX6_init 105 = .ok (.return_, 1) := by decide +kernel
theorem dX6_in_0 : decode cX6_in 0 = .ok (.lload_n 0, 1) := by decide +kernel
theorem dX6_in_1 : decode cX6_in 1 = .ok (.lload_n 2, 1) := by decide +kernel
theorem dX6_in_2 : decode cX6_in 2 = .ok (.lcmp, 1) := by decide +kernel
theorem dX6_in_3 : decode cX6_in 3 = .ok (.ifCond .lt 14, 3) := by decide +kernel
theorem dX6_in_6 : decode cX6_in 6 = .ok (.lload_n 0, 1) := by decide +kernel
theorem dX6_in_7 : decode cX6_in 7 = .ok (.lload 4, 2) := by decide +kernel
theorem dX6_in_9 : decode cX6_in 9 = .ok (.lcmp, 1) := by decide +kernel
theorem dX6_in_10 : decode cX6_in 10 = .ok (.ifCond .gt 7, 3) := by decide +kernel
theorem dX6_in_13 : decode cX6_in 13 = .ok (.iconst 1, 1) := by decide +kernel
theorem dX6_in_14 : decode cX6_in 14 = .ok (.goto 4, 3) := by decide +kernel
theorem dX6_in_17 : decode cX6_in 17 = .ok (.iconst 0, 1) := by decide +kernel
theorem dX6_in_18 : decode cX6_in 18 = .ok (.ireturn, 1) := by decide +kernel
theorem dX6_has_0 : decode cX6_has 0 = .ok (.iload_n 0, 1) := by decide +kernel
theorem dX6_has_1 : decode cX6_has 1 = .ok (.iload_n 1, 1) := by decide +kernel
theorem dX6_has_2 : decode cX6_has 2 = .ok (.ishr, 1) := by decide +kernel
theorem dX6_has_3 : decode cX6_has 3 = .ok (.iconst 1, 1) := by decide +kernel
theorem dX6_has_4 : decode cX6_has 4 = .ok (.iand, 1) := by decide +kernel
theorem dX6_has_5 : decode cX6_has 5 = .ok (.iconst 1, 1) := by decide +kernel
theorem dX6_has_6 : decode cX6_has 6 = .ok (.if_icmp .ne 7, 3) := by decide +kernel
theorem dX6_has_9 : decode cX6_has 9 = .ok (.iconst 1, 1) := by decide +kernel
theorem dX6_has_10 : decode cX6_has 10 = .ok (.goto 4, 3) := by decide +kernel
theorem dX6_has_13 : decode cX6_has 13 = .ok (.iconst 0, 1) := by decide +kernel
theorem dX6_has_14 : decode cX6_has 14 = .ok (.ireturn, 1) := by decide +kernel
theorem dX6_ones_0 : decode cX6_ones 0 = .ok (.iconst 0, 1) := by decide +kernel
theorem dX6_ones_1 : decode cX6_ones 1 = .ok (.istore_n 1, 1) := by decide +kernel
theorem dX6_ones_2 : decode cX6_ones 2 = .ok (.iconst 0, 1) := by decide +kernel
theorem dX6_ones_3 : decode cX6_ones 3 = .ok (.istore_n 2, 1) := by decide +kernel
theorem dX6_ones_4 : decode cX6_ones 4 = .ok (.iload_n 2, 1) := by decide +kernel
theorem dX6_ones_5 : decode cX6_ones 5 = .ok (.bipush 6, 2) := by decide +kernel
theorem dX6_ones_7 : decode cX6_ones 7 = .ok (.if_icmp .ge 17, 3) := by decide +kernel
theorem dX6_ones_10 : decode cX6_ones 10 = .ok (.iload_n 1, 1) := by decide +kernel
theorem dX6_ones_11 : decode cX6_ones 11 = .ok (.iload_n 0, 1) := by decide +kernel
theorem dX6_ones_12 : decode cX6_ones 12 = .ok (.iload_n 2, 1) := by decide +kernel
theorem dX6_ones_13 : decode cX6_ones 13 = .ok (.ishr, 1) := by decide +kernel
theorem dX6_ones_14 : decode cX6_ones 14 = .ok (.iconst 1, 1) := by decide +kernel
theorem dX6_ones_15 : decode cX6_ones 15 = .ok (.iand, 1) := by decide +kernel
theorem dX6_ones_16 : decode cX6_ones 16 = .ok (.iadd, 1) := by decide +kernel
theorem dX6_ones_17 : decode cX6_ones 17 = .ok (.istore_n 1, 1) := by decide +kernel
theorem dX6_ones_18 : decode cX6_ones 18 = .ok (.iinc 2 1, 3) := by decide +kernel
theorem dX6_ones_21 : decode cX6_ones 21 = .ok (.goto (-17), 3) := by decide +kernel
theorem dX6_ones_24 : decode cX6_ones 24 = .ok (.iload_n 1, 1) := by decide +kernel
theorem dX6_ones_25 : decode cX6_ones 25 = .ok (.ireturn, 1) := by decide +kernel
set_option maxRecDepth 20000 in
theorem ggX6_write_X6_in : GoodIn wsX6_write wsX6_in := goodIn_r _ [7] (by decide +kernel) (by decide +kernel)
set_option maxRecDepth 20000 in
theorem gX6_write_X6_in : GoodIn wsX6_write (va_wsS RX6 53 yX6_in wsX6_in) := goodIn_app (goodIn_of _ (by decide +kernel)) ggX6_write_X6_in
theorem dX6_write_0 : decode cX6_write 0 = .ok (.iload_n 1, 1) := by decide +kernel
theorem dX6_write_1 : decode cX6_write 1 = .ok (.i2l, 1) := by decide +kernel
theorem dX6_write_2 : decode cX6_write 2 = .ok (.lconst 0, 1) := by decide +kernel
theorem dX6_write_3 : decode cX6_write 3 = .ok (.ldc2_w 51, 3) := by decide +kernel
theorem dX6_write_6 : decode cX6_write 6 = .ok (.invokestatic 53, 3) := by decide +kernel
theorem dX6_write_9 : decode cX6_write 9 = .ok (.ifCond .ne 6, 3) := by decide +kernel
theorem dX6_write_12 : decode cX6_write 12 = .ok (.bipush (-2), 2) := by decide +kernel
theorem dX6_write_14 : decode cX6_write 14 = .ok (.ireturn, 1) := by decide +kernel
theorem dX6_write_15 : decode cX6_write 15 = .ok (.aload_n 0, 1) := by decide +kernel
theorem dX6_write_16 : decode cX6_write 16 = .ok (.getfield 57, 3) := by decide +kernel
theorem dX6_write_19 : decode cX6_write 19 = .ok (.bipush 56, 2) := by decide +kernel
theorem dX6_write_21 : decode cX6_write 21 = .ok (.if_icmp .ne 6, 3) := by decide +kernel
theorem dX6_write_24 : decode cX6_write 24 = .ok (.bipush (-4), 2) := by decide +kernel
theorem dX6_write_26 : decode cX6_write 26 = .ok (.ireturn, 1) := by decide +kernel
theorem dX6_write_27 : decode cX6_write 27 = .ok (.aload_n 0, 1) := by decide +kernel
theorem dX6_write_28 : decode cX6_write 28 = .ok (.getfield 25, 3) := by decide +kernel
theorem dX6_write_31 : decode cX6_write 31 = .ok (.aload_n 0, 1) := by decide +kernel
theorem dX6_write_32 : decode cX6_write 32 = .ok (.getfield 57, 3) := by decide +kernel
theorem dX6_write_35 : decode cX6_write 35 = .ok (.iload_n 1, 1) := by decide +kernel
theorem dX6_write_36 : decode cX6_write 36 = .ok (.iastore, 1) := by decide +kernel
theorem dX6_write_37 : decode cX6_write 37 = .ok (.aload_n 0, 1) := by decide +kernel
theorem dX6_write_38 : decode cX6_write 38 = .ok (.dup, 1) := by decide +kernel
theorem dX6_write_39 : decode cX6_write 39 = .ok (.getfield 57, 3) := by decide +kernel
theorem dX6_write_42 : decode cX6_write 42 = .ok (.iconst 1, 1) := by decide +kernel
theorem dX6_write_43 : decode cX6_write 43 = .ok (.iadd, 1) := by decide +kernel
theorem dX6_write_44 : decode cX6_write 44 = .ok (.putfield 57, 3) := by decide +kernel
theorem dX6_write_47 : decode cX6_write 47 = .ok (.aload_n 0, 1) := by decide +kernel
theorem dX6_write_48 : decode cX6_write 48 = .ok (.getfield 57, 3) := by decide +kernel
theorem dX6_write_51 : decode cX6_write 51 = .ok (.ireturn, 1) := by decide +kernel
theorem dX6_wipe_0 : decode cX6_wipe 0 = .ok (.aload_n 0, 1) := by decide +kernel
theorem dX6_wipe_1 : decode cX6_wipe 1 = .ok (.getfield 57, 3) := by decide +kernel
theorem dX6_wipe_4 : decode cX6_wipe 4 = .ok (.istore_n 1, 1) := by decide +kernel
theorem dX6_wipe_5 : decode cX6_wipe 5 = .ok (.aload_n 0, 1) := by decide +kernel
theorem dX6_wipe_6 : decode cX6_wipe 6 = .ok (.iconst 0, 1) := by decide +kernel
theorem dX6_wipe_7 : decode cX6_wipe 7 = .ok (.putfield 57, 3) := by decide +kernel
theorem dX6_wipe_10 : decode cX6_wipe 10 = .ok (.iload_n 1, 1) := by decide +kernel
theorem dX6_wipe_11 : decode cX6_wipe 11 = .ok (.ireturn, 1) := by decide +kernel
set_option maxRecDepth 20000 in
theorem ggX6_figureOf_X6_in : GoodIn wsX6_figureOf wsX6_in := goodIn_r _ [9] (by decide +kernel) (by decide +kernel)
set_option maxRecDepth 20000 in
theorem gX6_figureOf_X6_in : GoodIn wsX6_figureOf (va_wsS RX6 53 yX6_in wsX6_in) := goodIn_app (goodIn_of _ (by decide +kernel)) ggX6_figureOf_X6_in
set_option maxRecDepth 20000 in
theorem ggX6_figureOf_X6_has : GoodIn wsX6_figureOf wsX6_has := goodIn_r _ [12] (by decide +kernel) (by decide +kernel)
set_option maxRecDepth 20000 in
theorem gX6_figureOf_X6_has : GoodIn wsX6_figureOf (va_wsS RX6 68 yX6_has wsX6_has) := goodIn_app (goodIn_of _ (by decide +kernel)) ggX6_figureOf_X6_has
theorem dX6_figureOf_0 : decode cX6_figureOf 0 = .ok (.aload_n 0, 1) := by decide +kernel
theorem dX6_figureOf_1 : decode cX6_figureOf 1 = .ok (.getfield 60, 3) := by decide +kernel
theorem dX6_figureOf_4 : decode cX6_figureOf 4 = .ok (.bipush (-9), 2) := by decide +kernel
theorem dX6_figureOf_6 : decode cX6_figureOf 6 = .ok (.if_icmp .ne 29, 3) := by decide +kernel
theorem dX6_figureOf_9 : decode cX6_figureOf 9 = .ok (.aload_n 0, 1) := by decide +kernel
theorem dX6_figureOf_10 : decode cX6_figureOf 10 = .ok (.getfield 63, 3) := by decide +kernel
theorem dX6_figureOf_13 : decode cX6_figureOf 13 = .ok (.aload_n 0, 1) := by decide +kernel
theorem dX6_figureOf_14 : decode cX6_figureOf 14 = .ok (.getfield 57, 3) := by decide +kernel
theorem dX6_figureOf_17 : decode cX6_figureOf 17 = .ok (.if_icmp .ge 18, 3) := by decide +kernel
theorem dX6_figureOf_20 : decode cX6_figureOf 20 = .ok (.aload_n 0, 1) := by decide +kernel
theorem dX6_figureOf_21 : decode cX6_figureOf 21 = .ok (.getfield 25, 3) := by decide +kernel
theorem dX6_figureOf_24 : decode cX6_figureOf 24 = .ok (.aload_n 0, 1) := by decide +kernel
theorem dX6_figureOf_25 : decode cX6_figureOf 25 = .ok (.getfield 63, 3) := by decide +kernel
theorem dX6_figureOf_28 : decode cX6_figureOf 28 = .ok (.iaload, 1) := by decide +kernel
theorem dX6_figureOf_29 : decode cX6_figureOf 29 = .ok (.bipush 48, 2) := by decide +kernel
theorem dX6_figureOf_31 : decode cX6_figureOf 31 = .ok (.isub, 1) := by decide +kernel
theorem dX6_figureOf_32 : decode cX6_figureOf 32 = .ok (.goto 5, 3) := by decide +kernel
theorem dX6_figureOf_35 : decode cX6_figureOf 35 = .ok (.bipush (-9), 2) := by decide +kernel
theorem dX6_figureOf_37 : decode cX6_figureOf 37 = .ok (.istore_n 2, 1) := by decide +kernel
theorem dX6_figureOf_38 : decode cX6_figureOf 38 = .ok (.iload_n 2, 1) := by decide +kernel
theorem dX6_figureOf_39 : decode cX6_figureOf 39 = .ok (.i2l, 1) := by decide +kernel
theorem dX6_figureOf_40 : decode cX6_figureOf 40 = .ok (.lconst 0, 1) := by decide +kernel
theorem dX6_figureOf_41 : decode cX6_figureOf 41 = .ok (.ldc2_w 66, 3) := by decide +kernel
theorem dX6_figureOf_44 : decode cX6_figureOf 44 = .ok (.invokestatic 53, 3) := by decide +kernel
theorem dX6_figureOf_47 : decode cX6_figureOf 47 = .ok (.ifCond .eq 11, 3) := by decide +kernel
theorem dX6_figureOf_50 : decode cX6_figureOf 50 = .ok (.iload_n 1, 1) := by decide +kernel
theorem dX6_figureOf_51 : decode cX6_figureOf 51 = .ok (.iload_n 2, 1) := by decide +kernel
theorem dX6_figureOf_52 : decode cX6_figureOf 52 = .ok (.invokestatic 68, 3) := by decide +kernel
theorem dX6_figureOf_55 : decode cX6_figureOf 55 = .ok (.ifCond .ne 29, 3) := by decide +kernel
theorem dX6_figureOf_58 : decode cX6_figureOf 58 = .ok (.aload_n 0, 1) := by decide +kernel
theorem dX6_figureOf_59 : decode cX6_figureOf 59 = .ok (.aload_n 0, 1) := by decide +kernel
theorem dX6_figureOf_60 : decode cX6_figureOf 60 = .ok (.getfield 60, 3) := by decide +kernel
theorem dX6_figureOf_63 : decode cX6_figureOf 63 = .ok (.bipush (-9), 2) := by decide +kernel
theorem dX6_figureOf_65 : decode cX6_figureOf 65 = .ok (.if_icmp .ne 10, 3) := by decide +kernel
theorem dX6_figureOf_68 : decode cX6_figureOf 68 = .ok (.aload_n 0, 1) := by decide +kernel
theorem dX6_figureOf_69 : decode cX6_figureOf 69 = .ok (.getfield 63, 3) := by decide +kernel
theorem dX6_figureOf_72 : decode cX6_figureOf 72 = .ok (.goto 7, 3) := by decide +kernel
theorem dX6_figureOf_75 : decode cX6_figureOf 75 = .ok (.aload_n 0, 1) := by decide +kernel
theorem dX6_figureOf_76 : decode cX6_figureOf 76 = .ok (.getfield 60, 3) := by decide +kernel
theorem dX6_figureOf_79 : decode cX6_figureOf 79 = .ok (.putfield 60, 3) := by decide +kernel
theorem dX6_figureOf_82 : decode cX6_figureOf 82 = .ok (.iconst 0, 1) := by decide +kernel
theorem dX6_figureOf_83 : decode cX6_figureOf 83 = .ok (.ireturn, 1) := by decide +kernel
theorem dX6_figureOf_84 : decode cX6_figureOf 84 = .ok (.aload_n 0, 1) := by decide +kernel
theorem dX6_figureOf_85 : decode cX6_figureOf 85 = .ok (.dup, 1) := by decide +kernel
theorem dX6_figureOf_86 : decode cX6_figureOf 86 = .ok (.getfield 63, 3) := by decide +kernel
theorem dX6_figureOf_89 : decode cX6_figureOf 89 = .ok (.iconst 1, 1) := by decide +kernel
theorem dX6_figureOf_90 : decode cX6_figureOf 90 = .ok (.iadd, 1) := by decide +kernel
theorem dX6_figureOf_91 : decode cX6_figureOf 91 = .ok (.putfield 63, 3) := by decide +kernel
theorem dX6_figureOf_94 : decode cX6_figureOf 94 = .ok (.iload_n 2, 1) := by decide +kernel
theorem dX6_figureOf_95 : decode cX6_figureOf 95 = .ok (.ireturn, 1) := by decide +kernel
theorem dX6_left_0 : decode cX6_left 0 = .ok (.iconst 1, 1) := by decide +kernel
theorem dX6_left_1 : decode cX6_left 1 = .ok (.aload_n 0, 1) := by decide +kernel
theorem dX6_left_2 : decode cX6_left 2 = .ok (.getfield 72, 3) := by decide +kernel
theorem dX6_left_5 : decode cX6_left 5 = .ok (.ishl, 1) := by decide +kernel
theorem dX6_left_6 : decode cX6_left 6 = .ok (.iconst 1, 1) := by decide +kernel
theorem dX6_left_7 : decode cX6_left 7 = .ok (.isub, 1) := by decide +kernel
theorem dX6_left_8 : decode cX6_left 8 = .ok (.aload_n 0, 1) := by decide +kernel
theorem dX6_left_9 : decode cX6_left 9 = .ok (.getfield 22, 3) := by decide +kernel
theorem dX6_left_12 : decode cX6_left 12 = .ok (.iload_n 1, 1) := by decide +kernel
theorem dX6_left_13 : decode cX6_left 13 = .ok (.iaload, 1) := by decide +kernel
theorem dX6_left_14 : decode cX6_left 14 = .ok (.iconst (-1), 1) := by decide +kernel
theorem dX6_left_15 : decode cX6_left 15 = .ok (.ixor, 1) := by decide +kernel
theorem dX6_left_16 : decode cX6_left 16 = .ok (.iand, 1) := by decide +kernel
theorem dX6_left_17 : decode cX6_left 17 = .ok (.iconst 1, 1) := by decide +kernel
theorem dX6_left_18 : decode cX6_left 18 = .ok (.iload_n 1, 1) := by decide +kernel
theorem dX6_left_19 : decode cX6_left 19 = .ok (.ishl, 1) := by decide +kernel
theorem dX6_left_20 : decode cX6_left 20 = .ok (.iconst (-1), 1) := by decide +kernel
theorem dX6_left_21 : decode cX6_left 21 = .ok (.ixor, 1) := by decide +kernel
theorem dX6_left_22 : decode cX6_left 22 = .ok (.iand, 1) := by decide +kernel
theorem dX6_left_23 : decode cX6_left 23 = .ok (.ireturn, 1) := by decide +kernel
set_option maxRecDepth 20000 in
theorem ggX6_firstsLeft_X6_left : GoodIn wsX6_firstsLeft wsX6_left := goodIn_r _ [6, 1, 7, 8, 9, 10, 11, 12, 13, 14, 15, 16, 17, 18, 19, 20, 21, 22, 23, 24, 25, 26, 27, 28, 29, 30, 31] (by decide +kernel) (by decide +kernel)
set_option maxRecDepth 20000 in
theorem gX6_firstsLeft_X6_left : GoodIn wsX6_firstsLeft (wsV RX6 75 RX6 yX6_left wsX6_left) := goodIn_app (goodIn_of _ (by decide +kernel)) ggX6_firstsLeft_X6_left
theorem dX6_firstsLeft_0 : decode cX6_firstsLeft 0 = .ok (.iconst 0, 1) := by decide +kernel
theorem dX6_firstsLeft_1 : decode cX6_firstsLeft 1 = .ok (.istore_n 1, 1) := by decide +kernel
theorem dX6_firstsLeft_2 : decode cX6_firstsLeft 2 = .ok (.iconst 0, 1) := by decide +kernel
theorem dX6_firstsLeft_3 : decode cX6_firstsLeft 3 = .ok (.istore_n 2, 1) := by decide +kernel
theorem dX6_firstsLeft_4 : decode cX6_firstsLeft 4 = .ok (.iload_n 2, 1) := by decide +kernel
theorem dX6_firstsLeft_5 : decode cX6_firstsLeft 5 = .ok (.aload_n 0, 1) := by decide +kernel
theorem dX6_firstsLeft_6 : decode cX6_firstsLeft 6 = .ok (.getfield 72, 3) := by decide +kernel
theorem dX6_firstsLeft_9 : decode cX6_firstsLeft 9 = .ok (.if_icmp .ge 27, 3) := by decide +kernel
theorem dX6_firstsLeft_12 : decode cX6_firstsLeft 12 = .ok (.iload_n 1, 1) := by decide +kernel
theorem dX6_firstsLeft_13 : decode cX6_firstsLeft 13 = .ok (.aload_n 0, 1) := by decide +kernel
theorem dX6_firstsLeft_14 : decode cX6_firstsLeft 14 = .ok (.iload_n 2, 1) := by decide +kernel
theorem dX6_firstsLeft_15 : decode cX6_firstsLeft 15 = .ok (.invokevirtual 75, 3) := by decide +kernel
theorem dX6_firstsLeft_18 : decode cX6_firstsLeft 18 = .ok (.ifCond .eq 9, 3) := by decide +kernel
theorem dX6_firstsLeft_21 : decode cX6_firstsLeft 21 = .ok (.iconst 1, 1) := by decide +kernel
theorem dX6_firstsLeft_22 : decode cX6_firstsLeft 22 = .ok (.iload_n 2, 1) := by decide +kernel
theorem dX6_firstsLeft_23 : decode cX6_firstsLeft 23 = .ok (.ishl, 1) := by decide +kernel
theorem dX6_firstsLeft_24 : decode cX6_firstsLeft 24 = .ok (.goto 4, 3) := by decide +kernel
theorem dX6_firstsLeft_27 : decode cX6_firstsLeft 27 = .ok (.iconst 0, 1) := by decide +kernel
theorem dX6_firstsLeft_28 : decode cX6_firstsLeft 28 = .ok (.ior, 1) := by decide +kernel
theorem dX6_firstsLeft_29 : decode cX6_firstsLeft 29 = .ok (.istore_n 1, 1) := by decide +kernel
theorem dX6_firstsLeft_30 : decode cX6_firstsLeft 30 = .ok (.iinc 2 1, 3) := by decide +kernel
theorem dX6_firstsLeft_33 : decode cX6_firstsLeft 33 = .ok (.goto (-29), 3) := by decide +kernel
theorem dX6_firstsLeft_36 : decode cX6_firstsLeft 36 = .ok (.iload_n 1, 1) := by decide +kernel
theorem dX6_firstsLeft_37 : decode cX6_firstsLeft 37 = .ok (.ireturn, 1) := by decide +kernel
set_option maxRecDepth 20000 in
theorem ggX6_readText_X6_figureOf : GoodIn wsX6_readText wsX6_figureOf := goodIn_r _ [12, 2, 1, 5, 6, 13, 14, 15, 11, 16, 17, 18, 19, 33, 34, 35, 36, 37, 38, 39, 40, 41, 42, 43, 44, 45, 46, 47, 48, 49, 50, 51, 52, 53, 54, 55, 56] (by decide +kernel) (by decide +kernel)
set_option maxRecDepth 20000 in
theorem gX6_readText_X6_figureOf : GoodIn wsX6_readText (wsV RX6 79 RX6 yX6_figureOf wsX6_figureOf) := goodIn_app (goodIn_of _ (by decide +kernel)) ggX6_readText_X6_figureOf
set_option maxRecDepth 20000 in
theorem ggX6_readText_X6_readPart : GoodIn wsX6_readText wsX6_readPart := goodIn_r _ [23, 3, 1, 24, 4, 2, 8, 9, 10, 11, 12, 5, 6, 13, 14, 15, 16, 17, 18, 19, 25, 26, 27, 28, 29, 30, 31, 32, 33, 34, 35, 36, 37, 38, 39, 40, 41, 42, 43, 44, 45, 46, 47, 48, 49, 50, 51, 52, 53, 54, 55, 56] (by decide +kernel) (by decide +kernel)
set_option maxRecDepth 20000 in
theorem gX6_readText_X6_readPart : GoodIn wsX6_readText (wsV RX6 85 RX6 yX6_readPart wsX6_readPart) := goodIn_app (goodIn_of _ (by decide +kernel)) ggX6_readText_X6_readPart
theorem dX6_readText_0 : decode cX6_readText 0 = .ok (.aload_n 0, 1) := by decide +kernel
theorem dX6_readText_1 : decode cX6_readText 1 = .ok (.iconst 0, 1) := by decide +kernel
theorem dX6_readText_2 : decode cX6_readText 2 = .ok (.putfield 63, 3) := by decide +kernel
theorem dX6_readText_5 : decode cX6_readText 5 = .ok (.aload_n 0, 1) := by decide +kernel
theorem dX6_readText_6 : decode cX6_readText 6 = .ok (.bipush (-9), 2) := by decide +kernel
theorem dX6_readText_8 : decode cX6_readText 8 = .ok (.putfield 60, 3) := by decide +kernel
theorem dX6_readText_11 : decode cX6_readText 11 = .ok (.aload_n 0, 1) := by decide +kernel
theorem dX6_readText_12 : decode cX6_readText 12 = .ok (.iconst 0, 1) := by decide +kernel
theorem dX6_readText_13 : decode cX6_readText 13 = .ok (.putfield 72, 3) := by decide +kernel
theorem dX6_readText_16 : decode cX6_readText 16 = .ok (.iconst 0, 1) := by decide +kernel
theorem dX6_readText_17 : decode cX6_readText 17 = .ok (.istore_n 1, 1) := by decide +kernel
theorem dX6_readText_18 : decode cX6_readText 18 = .ok (.iload_n 1, 1) := by decide +kernel
theorem dX6_readText_19 : decode cX6_readText 19 = .ok (.bipush 6, 2) := by decide +kernel
theorem dX6_readText_21 : decode cX6_readText 21 = .ok (.if_icmp .ge 16, 3) := by decide +kernel
theorem dX6_readText_24 : decode cX6_readText 24 = .ok (.aload_n 0, 1) := by decide +kernel
theorem dX6_readText_25 : decode cX6_readText 25 = .ok (.getfield 22, 3) := by decide +kernel
theorem dX6_readText_28 : decode cX6_readText 28 = .ok (.iload_n 1, 1) := by decide +kernel
theorem dX6_readText_29 : decode cX6_readText 29 = .ok (.iconst 0, 1) := by decide +kernel
theorem dX6_readText_30 : decode cX6_readText 30 = .ok (.iastore, 1) := by decide +kernel
theorem dX6_readText_31 : decode cX6_readText 31 = .ok (.iinc 1 1, 3) := by decide +kernel
theorem dX6_readText_34 : decode cX6_readText 34 = .ok (.goto (-16), 3) := by decide +kernel
theorem dX6_readText_37 : decode cX6_readText 37 = .ok (.aload_n 0, 1) := by decide +kernel
theorem dX6_readText_38 : decode cX6_readText 38 = .ok (.getfield 57, 3) := by decide +kernel
theorem dX6_readText_41 : decode cX6_readText 41 = .ok (.ifCond .eq 14, 3) := by decide +kernel
theorem dX6_readText_44 : decode cX6_readText 44 = .ok (.aload_n 0, 1) := by decide +kernel
theorem dX6_readText_45 : decode cX6_readText 45 = .ok (.getfield 25, 3) := by decide +kernel
theorem dX6_readText_48 : decode cX6_readText 48 = .ok (.iconst 0, 1) := by decide +kernel
theorem dX6_readText_49 : decode cX6_readText 49 = .ok (.iaload, 1) := by decide +kernel
theorem dX6_readText_50 : decode cX6_readText 50 = .ok (.bipush 74, 2) := by decide +kernel
theorem dX6_readText_52 : decode cX6_readText 52 = .ok (.if_icmp .eq 5, 3) := by decide +kernel
theorem dX6_readText_55 : decode cX6_readText 55 = .ok (.iconst 0, 1) := by decide +kernel
theorem dX6_readText_56 : decode cX6_readText 56 = .ok (.ireturn, 1) := by decide +kernel
theorem dX6_readText_57 : decode cX6_readText 57 = .ok (.aload_n 0, 1) := by decide +kernel
theorem dX6_readText_58 : decode cX6_readText 58 = .ok (.iconst 1, 1) := by decide +kernel
theorem dX6_readText_59 : decode cX6_readText 59 = .ok (.putfield 63, 3) := by decide +kernel
theorem dX6_readText_62 : decode cX6_readText 62 = .ok (.aload_n 0, 1) := by decide +kernel
theorem dX6_readText_63 : decode cX6_readText 63 = .ok (.aload_n 0, 1) := by decide +kernel
theorem dX6_readText_64 : decode cX6_readText 64 = .ok (.bipush 126, 2) := by decide +kernel
theorem dX6_readText_66 : decode cX6_readText 66 = .ok (.invokevirtual 79, 3) := by decide +kernel
theorem dX6_readText_69 : decode cX6_readText 69 = .ok (.putfield 82, 3) := by decide +kernel
theorem dX6_readText_72 : decode cX6_readText 72 = .ok (.aload_n 0, 1) := by decide +kernel
theorem dX6_readText_73 : decode cX6_readText 73 = .ok (.getfield 60, 3) := by decide +kernel
theorem dX6_readText_76 : decode cX6_readText 76 = .ok (.bipush (-9), 2) := by decide +kernel
theorem dX6_readText_78 : decode cX6_readText 78 = .ok (.if_icmp .ne 30, 3) := by decide +kernel
theorem dX6_readText_81 : decode cX6_readText 81 = .ok (.aload_n 0, 1) := by decide +kernel
theorem dX6_readText_82 : decode cX6_readText 82 = .ok (.getfield 63, 3) := by decide +kernel
theorem dX6_readText_85 : decode cX6_readText 85 = .ok (.aload_n 0, 1) := by decide +kernel
theorem dX6_readText_86 : decode cX6_readText 86 = .ok (.getfield 57, 3) := by decide +kernel
theorem dX6_readText_89 : decode cX6_readText 89 = .ok (.if_icmp .ge 19, 3) := by decide +kernel
theorem dX6_readText_92 : decode cX6_readText 92 = .ok (.aload_n 0, 1) := by decide +kernel
theorem dX6_readText_93 : decode cX6_readText 93 = .ok (.aload_n 0, 1) := by decide +kernel
theorem dX6_readText_94 : decode cX6_readText 94 = .ok (.getfield 25, 3) := by decide +kernel
theorem dX6_readText_97 : decode cX6_readText 97 = .ok (.aload_n 0, 1) := by decide +kernel
theorem dX6_readText_98 : decode cX6_readText 98 = .ok (.getfield 63, 3) := by decide +kernel
theorem dX6_readText_101 : decode cX6_readText 101 = .ok (.iaload, 1) := by decide +kernel
theorem dX6_readText_102 : decode cX6_readText 102 = .ok (.invokevirtual 85, 3) := by decide +kernel
theorem dX6_readText_105 : decode cX6_readText 105 = .ok (.goto (-33), 3) := by decide +kernel
theorem dX6_readText_108 : decode cX6_readText 108 = .ok (.aload_n 0, 1) := by decide +kernel
theorem dX6_readText_109 : decode cX6_readText 109 = .ok (.getfield 60, 3) := by decide +kernel
theorem dX6_readText_112 : decode cX6_readText 112 = .ok (.ireturn, 1) := by decide +kernel
set_option maxRecDepth 20000 in
theorem ggX6_readPart_X6_figureOf : GoodIn wsX6_readPart wsX6_figureOf := goodIn_r _ [10, 5, 2, 11, 12, 13, 14, 15, 9, 16, 17, 18, 19, 28, 29, 30, 31, 32, 33, 34, 35, 36, 37, 38, 39, 40, 41, 42, 43, 44, 45, 46, 47, 48, 49, 50, 51] (by decide +kernel) (by decide +kernel)
set_option maxRecDepth 20000 in
theorem gX6_readPart_X6_figureOf : GoodIn wsX6_readPart (wsV RX6 79 RX6 yX6_figureOf wsX6_figureOf) := goodIn_app (goodIn_of _ (by decide +kernel)) ggX6_readPart_X6_figureOf
set_option maxRecDepth 20000 in
theorem ggX6_readPart_X6_firstsLeft : GoodIn wsX6_readPart wsX6_firstsLeft := goodIn_r _ [23, 1, 24, 25, 26, 9, 27, 4, 28, 29, 30, 31, 32, 33, 34, 35, 36, 37, 38, 39, 40, 41, 42, 43, 44, 45, 46, 47, 48, 49, 50, 51] (by decide +kernel) (by decide +kernel)
set_option maxRecDepth 20000 in
theorem gX6_readPart_X6_firstsLeft : GoodIn wsX6_readPart (wsV RX6 89 RX6 yX6_firstsLeft wsX6_firstsLeft) := goodIn_app (goodIn_of _ (by decide +kernel)) ggX6_readPart_X6_firstsLeft
set_option maxRecDepth 20000 in
theorem ggX6_readPart_X6_left : GoodIn wsX6_readPart wsX6_left := goodIn_r _ [27, 1, 4, 28, 29, 30, 31, 32, 33, 34, 35, 36, 37, 38, 39, 40, 41, 42, 43, 44, 45, 46, 47, 48, 49, 50, 51] (by decide +kernel) (by decide +kernel)
set_option maxRecDepth 20000 in
theorem gX6_readPart_X6_left : GoodIn wsX6_readPart (wsV RX6 75 RX6 yX6_left wsX6_left) := goodIn_app (goodIn_of _ (by decide +kernel)) ggX6_readPart_X6_left
theorem dX6_readPart_0 : decode cX6_readPart 0 = .ok (.iload_n 1, 1) := by decide +kernel
theorem dX6_readPart_1 : decode cX6_readPart 1 = .ok (.bipush 80, 2) := by decide +kernel
theorem dX6_readPart_3 : decode cX6_readPart 3 = .ok (.if_icmp .ne 90, 3) := by decide +kernel
theorem dX6_readPart_6 : decode cX6_readPart 6 = .ok (.aload_n 0, 1) := by decide +kernel
theorem dX6_readPart_7 : decode cX6_readPart 7 = .ok (.getfield 72, 3) := by decide +kernel
theorem dX6_readPart_10 : decode cX6_readPart 10 = .ok (.bipush 6, 2) := by decide +kernel
theorem dX6_readPart_12 : decode cX6_readPart 12 = .ok (.if_icmp .ge 81, 3) := by decide +kernel
theorem dX6_readPart_15 : decode cX6_readPart 15 = .ok (.aload_n 0, 1) := by decide +kernel
theorem dX6_readPart_16 : decode cX6_readPart 16 = .ok (.dup, 1) := by decide +kernel
theorem dX6_readPart_17 : decode cX6_readPart 17 = .ok (.getfield 63, 3) := by decide +kernel
theorem dX6_readPart_20 : decode cX6_readPart 20 = .ok (.iconst 1, 1) := by decide +kernel
theorem dX6_readPart_21 : decode cX6_readPart 21 = .ok (.iadd, 1) := by decide +kernel
theorem dX6_readPart_22 : decode cX6_readPart 22 = .ok (.putfield 63, 3) := by decide +kernel
theorem dX6_readPart_25 : decode cX6_readPart 25 = .ok (.aload_n 0, 1) := by decide +kernel
theorem dX6_readPart_26 : decode cX6_readPart 26 = .ok (.getfield 19, 3) := by decide +kernel
theorem dX6_readPart_29 : decode cX6_readPart 29 = .ok (.iconst 3, 1) := by decide +kernel
theorem dX6_readPart_30 : decode cX6_readPart 30 = .ok (.aload_n 0, 1) := by decide +kernel
theorem dX6_readPart_31 : decode cX6_readPart 31 = .ok (.getfield 72, 3) := by decide +kernel
theorem dX6_readPart_34 : decode cX6_readPart 34 = .ok (.imul, 1) := by decide +kernel
theorem dX6_readPart_35 : decode cX6_readPart 35 = .ok (.aload_n 0, 1) := by decide +kernel
theorem dX6_readPart_36 : decode cX6_readPart 36 = .ok (.iconst 3, 1) := by decide +kernel
theorem dX6_readPart_37 : decode cX6_readPart 37 = .ok (.invokevirtual 79, 3) := by decide +kernel
theorem dX6_readPart_40 : decode cX6_readPart 40 = .ok (.iastore, 1) := by decide +kernel
theorem dX6_readPart_41 : decode cX6_readPart 41 = .ok (.aload_n 0, 1) := by decide +kernel
theorem dX6_readPart_42 : decode cX6_readPart 42 = .ok (.getfield 19, 3) := by decide +kernel
theorem dX6_readPart_45 : decode cX6_readPart 45 = .ok (.iconst 3, 1) := by decide +kernel
theorem dX6_readPart_46 : decode cX6_readPart 46 = .ok (.aload_n 0, 1) := by decide +kernel
theorem dX6_readPart_47 : decode cX6_readPart 47 = .ok (.getfield 72, 3) := by decide +kernel
theorem dX6_readPart_50 : decode cX6_readPart 50 = .ok (.imul, 1) := by decide +kernel
theorem dX6_readPart_51 : decode cX6_readPart 51 = .ok (.iconst 1, 1) := by decide +kernel
theorem dX6_readPart_52 : decode cX6_readPart 52 = .ok (.iadd, 1) := by decide +kernel
theorem dX6_readPart_53 : decode cX6_readPart 53 = .ok (.aload_n 0, 1) := by decide +kernel
theorem dX6_readPart_54 : decode cX6_readPart 54 = .ok (.sipush 1022, 3) := by decide +kernel
theorem dX6_readPart_57 : decode cX6_readPart 57 = .ok (.invokevirtual 79, 3) := by decide +kernel
theorem dX6_readPart_60 : decode cX6_readPart 60 = .ok (.iastore, 1) := by decide +kernel
theorem dX6_readPart_61 : decode cX6_readPart 61 = .ok (.aload_n 0, 1) := by decide +kernel
theorem dX6_readPart_62 : decode cX6_readPart 62 = .ok (.getfield 19, 3) := by decide +kernel
theorem dX6_readPart_65 : decode cX6_readPart 65 = .ok (.iconst 3, 1) := by decide +kernel
theorem dX6_readPart_66 : decode cX6_readPart 66 = .ok (.aload_n 0, 1) := by decide +kernel
theorem dX6_readPart_67 : decode cX6_readPart 67 = .ok (.getfield 72, 3) := by decide +kernel
theorem dX6_readPart_70 : decode cX6_readPart 70 = .ok (.imul, 1) := by decide +kernel
theorem dX6_readPart_71 : decode cX6_readPart 71 = .ok (.iconst 2, 1) := by decide +kernel
theorem dX6_readPart_72 : decode cX6_readPart 72 = .ok (.iadd, 1) := by decide +kernel
theorem dX6_readPart_73 : decode cX6_readPart 73 = .ok (.aload_n 0, 1) := by decide +kernel
theorem dX6_readPart_74 : decode cX6_readPart 74 = .ok (.bipush 15, 2) := by decide +kernel
theorem dX6_readPart_76 : decode cX6_readPart 76 = .ok (.invokevirtual 79, 3) := by decide +kernel
theorem dX6_readPart_79 : decode cX6_readPart 79 = .ok (.iastore, 1) := by decide +kernel
theorem dX6_readPart_80 : decode cX6_readPart 80 = .ok (.aload_n 0, 1) := by decide +kernel
theorem dX6_readPart_81 : decode cX6_readPart 81 = .ok (.dup, 1) := by decide +kernel
theorem dX6_readPart_82 : decode cX6_readPart 82 = .ok (.getfield 72, 3) := by decide +kernel
theorem dX6_readPart_85 : decode cX6_readPart 85 = .ok (.iconst 1, 1) := by decide +kernel
theorem dX6_readPart_86 : decode cX6_readPart 86 = .ok (.iadd, 1) := by decide +kernel
theorem dX6_readPart_87 : decode cX6_readPart 87 = .ok (.putfield 72, 3) := by decide +kernel
theorem dX6_readPart_90 : decode cX6_readPart 90 = .ok (.goto 81, 3) := by decide +kernel
theorem dX6_readPart_93 : decode cX6_readPart 93 = .ok (.iload_n 1, 1) := by decide +kernel
theorem dX6_readPart_94 : decode cX6_readPart 94 = .ok (.bipush 72, 2) := by decide +kernel
theorem dX6_readPart_96 : decode cX6_readPart 96 = .ok (.if_icmp .ne 67, 3) := by decide +kernel
theorem dX6_readPart_99 : decode cX6_readPart 99 = .ok (.aload_n 0, 1) := by decide +kernel
theorem dX6_readPart_100 : decode cX6_readPart 100 = .ok (.invokevirtual 89, 3) := by decide +kernel
theorem dX6_readPart_103 : decode cX6_readPart 103 = .ok (.ifCond .eq 60, 3) := by decide +kernel
theorem dX6_readPart_106 : decode cX6_readPart 106 = .ok (.aload_n 0, 1) := by decide +kernel
theorem dX6_readPart_107 : decode cX6_readPart 107 = .ok (.dup, 1) := by decide +kernel
theorem dX6_readPart_108 : decode cX6_readPart 108 = .ok (.getfield 63, 3) := by decide +kernel
theorem dX6_readPart_111 : decode cX6_readPart 111 = .ok (.iconst 1, 1) := by decide +kernel
theorem dX6_readPart_112 : decode cX6_readPart 112 = .ok (.iadd, 1) := by decide +kernel
theorem dX6_readPart_113 : decode cX6_readPart 113 = .ok (.putfield 63, 3) := by decide +kernel
theorem dX6_readPart_116 : decode cX6_readPart 116 = .ok (.aload_n 0, 1) := by decide +kernel
theorem dX6_readPart_117 : decode cX6_readPart 117 = .ok (.aload_n 0, 1) := by decide +kernel
theorem dX6_readPart_118 : decode cX6_readPart 118 = .ok (.invokevirtual 89, 3) := by decide +kernel
theorem dX6_readPart_121 : decode cX6_readPart 121 = .ok (.invokevirtual 79, 3) := by decide +kernel
theorem dX6_readPart_124 : decode cX6_readPart 124 = .ok (.istore_n 2, 1) := by decide +kernel
theorem dX6_readPart_125 : decode cX6_readPart 125 = .ok (.aload_n 0, 1) := by decide +kernel
theorem dX6_readPart_126 : decode cX6_readPart 126 = .ok (.aload_n 0, 1) := by decide +kernel
theorem dX6_readPart_127 : decode cX6_readPart 127 = .ok (.iload_n 2, 1) := by decide +kernel
theorem dX6_readPart_128 : decode cX6_readPart 128 = .ok (.invokevirtual 75, 3) := by decide +kernel
theorem dX6_readPart_131 : decode cX6_readPart 131 = .ok (.invokevirtual 79, 3) := by decide +kernel
theorem dX6_readPart_134 : decode cX6_readPart 134 = .ok (.istore_n 3, 1) := by decide +kernel
theorem dX6_readPart_135 : decode cX6_readPart 135 = .ok (.aload_n 0, 1) := by decide +kernel
theorem dX6_readPart_136 : decode cX6_readPart 136 = .ok (.getfield 22, 3) := by decide +kernel
theorem dX6_readPart_139 : decode cX6_readPart 139 = .ok (.iload_n 2, 1) := by decide +kernel
theorem dX6_readPart_140 : decode cX6_readPart 140 = .ok (.dup2, 1) := by decide +kernel
theorem dX6_readPart_141 : decode cX6_readPart 141 = .ok (.iaload, 1) := by decide +kernel
theorem dX6_readPart_142 : decode cX6_readPart 142 = .ok (.aload_n 0, 1) := by decide +kernel
theorem dX6_readPart_143 : decode cX6_readPart 143 = .ok (.getfield 60, 3) := by decide +kernel
theorem dX6_readPart_146 : decode cX6_readPart 146 = .ok (.bipush (-9), 2) := by decide +kernel
theorem dX6_readPart_148 : decode cX6_readPart 148 = .ok (.if_icmp .ne 9, 3) := by decide +kernel
theorem dX6_readPart_151 : decode cX6_readPart 151 = .ok (.iconst 1, 1) := by decide +kernel
theorem dX6_readPart_152 : decode cX6_readPart 152 = .ok (.iload_n 3, 1) := by decide +kernel
theorem dX6_readPart_153 : decode cX6_readPart 153 = .ok (.ishl, 1) := by decide +kernel
theorem dX6_readPart_154 : decode cX6_readPart 154 = .ok (.goto 4, 3) := by decide +kernel
theorem dX6_readPart_157 : decode cX6_readPart 157 = .ok (.iconst 0, 1) := by decide +kernel
theorem dX6_readPart_158 : decode cX6_readPart 158 = .ok (.ior, 1) := by decide +kernel
theorem dX6_readPart_159 : decode cX6_readPart 159 = .ok (.iastore, 1) := by decide +kernel
theorem dX6_readPart_160 : decode cX6_readPart 160 = .ok (.goto 11, 3) := by decide +kernel
theorem dX6_readPart_163 : decode cX6_readPart 163 = .ok (.aload_n 0, 1) := by decide +kernel
theorem dX6_readPart_164 : decode cX6_readPart 164 = .ok (.aload_n 0, 1) := by decide +kernel
theorem dX6_readPart_165 : decode cX6_readPart 165 = .ok (.getfield 63, 3) := by decide +kernel
theorem dX6_readPart_168 : decode cX6_readPart 168 = .ok (.putfield 60, 3) := by decide +kernel
theorem dX6_readPart_171 : decode cX6_readPart 171 = .ok (.return_, 1) := by decide +kernel
set_option maxRecDepth 20000 in
theorem ggX6_fault_X6_readText : GoodIn wsX6_fault wsX6_readText := goodIn_r _ [5, 6, 7, 8, 9, 10, 11, 12, 13, 14, 15, 4, 16, 17, 18, 19, 20, 21, 22, 23, 24, 25, 26, 27, 28, 29, 30, 31, 32, 33, 34, 35, 36, 37, 38, 39, 40, 41, 42, 43, 44, 45, 46, 47, 48, 49, 50, 51, 52, 53, 54, 55, 56, 57, 58, 59, 60] (by decide +kernel) (by decide +kernel)
set_option maxRecDepth 20000 in
theorem gX6_fault_X6_readText : GoodIn wsX6_fault (wsV RX6 93 RX6 yX6_readText wsX6_readText) := goodIn_app (goodIn_of _ (by decide +kernel)) ggX6_fault_X6_readText
theorem dX6_fault_0 : decode cX6_fault 0 = .ok (.aload_n 0, 1) := by decide +kernel
theorem dX6_fault_1 : decode cX6_fault 1 = .ok (.invokevirtual 93, 3) := by decide +kernel
theorem dX6_fault_4 : decode cX6_fault 4 = .ok (.ireturn, 1) := by decide +kernel
set_option maxRecDepth 20000 in
theorem ggX6_jury_X6_readText : GoodIn wsX6_jury wsX6_readText := goodIn_r _ [16, 17, 18, 1, 9, 19, 20, 3, 21, 22, 23, 15, 24, 25, 26, 27, 28, 29, 30, 31, 32, 33, 34, 35, 6, 36, 37, 38, 39, 40, 41, 42, 43, 44, 45, 46, 47, 48, 49, 50, 51, 52, 53, 54, 55, 56, 57, 58, 59, 60, 61, 62, 63, 64, 65, 66, 67] (by decide +kernel) (by decide +kernel)
set_option maxRecDepth 20000 in
theorem gX6_jury_X6_readText : GoodIn wsX6_jury (wsV RX6 93 RX6 yX6_readText wsX6_readText) := goodIn_app (goodIn_of _ (by decide +kernel)) ggX6_jury_X6_readText
theorem dX6_jury_0 : decode cX6_jury 0 = .ok (.aload_n 0, 1) := by decide +kernel
theorem dX6_jury_1 : decode cX6_jury 1 = .ok (.invokevirtual 93, 3) := by decide +kernel
theorem dX6_jury_4 : decode cX6_jury 4 = .ok (.bipush (-9), 2) := by decide +kernel
theorem dX6_jury_6 : decode cX6_jury 6 = .ok (.if_icmp .eq 6, 3) := by decide +kernel
theorem dX6_jury_9 : decode cX6_jury 9 = .ok (.bipush (-3), 2) := by decide +kernel
theorem dX6_jury_11 : decode cX6_jury 11 = .ok (.ireturn, 1) := by decide +kernel
theorem dX6_jury_12 : decode cX6_jury 12 = .ok (.aload_n 0, 1) := by decide +kernel
theorem dX6_jury_13 : decode cX6_jury 13 = .ok (.aload_n 0, 1) := by decide +kernel
theorem dX6_jury_14 : decode cX6_jury 14 = .ok (.getfield 72, 3) := by decide +kernel
theorem dX6_jury_17 : decode cX6_jury 17 = .ok (.putfield 96, 3) := by decide +kernel
theorem dX6_jury_20 : decode cX6_jury 20 = .ok (.aload_n 0, 1) := by decide +kernel
theorem dX6_jury_21 : decode cX6_jury 21 = .ok (.aload_n 0, 1) := by decide +kernel
theorem dX6_jury_22 : decode cX6_jury 22 = .ok (.getfield 82, 3) := by decide +kernel
theorem dX6_jury_25 : decode cX6_jury 25 = .ok (.putfield 47, 3) := by decide +kernel
theorem dX6_jury_28 : decode cX6_jury 28 = .ok (.iconst 0, 1) := by decide +kernel
theorem dX6_jury_29 : decode cX6_jury 29 = .ok (.istore_n 1, 1) := by decide +kernel
theorem dX6_jury_30 : decode cX6_jury 30 = .ok (.iload_n 1, 1) := by decide +kernel
theorem dX6_jury_31 : decode cX6_jury 31 = .ok (.bipush 15, 2) := by decide +kernel
theorem dX6_jury_33 : decode cX6_jury 33 = .ok (.if_icmp .ge 16, 3) := by decide +kernel
theorem dX6_jury_36 : decode cX6_jury 36 = .ok (.aload_n 0, 1) := by decide +kernel
theorem dX6_jury_37 : decode cX6_jury 37 = .ok (.getfield 16, 3) := by decide +kernel
theorem dX6_jury_40 : decode cX6_jury 40 = .ok (.iload_n 1, 1) := by decide +kernel
theorem dX6_jury_41 : decode cX6_jury 41 = .ok (.iconst 0, 1) := by decide +kernel
theorem dX6_jury_42 : decode cX6_jury 42 = .ok (.iastore, 1) := by decide +kernel
theorem dX6_jury_43 : decode cX6_jury 43 = .ok (.iinc 1 1, 3) := by decide +kernel
theorem dX6_jury_46 : decode cX6_jury 46 = .ok (.goto (-16), 3) := by decide +kernel
theorem dX6_jury_49 : decode cX6_jury 49 = .ok (.aload_n 0, 1) := by decide +kernel
theorem dX6_jury_50 : decode cX6_jury 50 = .ok (.getfield 16, 3) := by decide +kernel
theorem dX6_jury_53 : decode cX6_jury 53 = .ok (.iconst 1, 1) := by decide +kernel
theorem dX6_jury_54 : decode cX6_jury 54 = .ok (.iconst 1, 1) := by decide +kernel
theorem dX6_jury_55 : decode cX6_jury 55 = .ok (.aload_n 0, 1) := by decide +kernel
theorem dX6_jury_56 : decode cX6_jury 56 = .ok (.getfield 96, 3) := by decide +kernel
theorem dX6_jury_59 : decode cX6_jury 59 = .ok (.ishl, 1) := by decide +kernel
theorem dX6_jury_60 : decode cX6_jury 60 = .ok (.iconst 1, 1) := by decide +kernel
theorem dX6_jury_61 : decode cX6_jury 61 = .ok (.isub, 1) := by decide +kernel
theorem dX6_jury_62 : decode cX6_jury 62 = .ok (.iastore, 1) := by decide +kernel
theorem dX6_jury_63 : decode cX6_jury 63 = .ok (.iconst 0, 1) := by decide +kernel
theorem dX6_jury_64 : decode cX6_jury 64 = .ok (.istore_n 1, 1) := by decide +kernel
theorem dX6_jury_65 : decode cX6_jury 65 = .ok (.iload_n 1, 1) := by decide +kernel
theorem dX6_jury_66 : decode cX6_jury 66 = .ok (.aload_n 0, 1) := by decide +kernel
theorem dX6_jury_67 : decode cX6_jury 67 = .ok (.getfield 96, 3) := by decide +kernel
theorem dX6_jury_70 : decode cX6_jury 70 = .ok (.if_icmp .ge 74, 3) := by decide +kernel
theorem dX6_jury_73 : decode cX6_jury 73 = .ok (.aload_n 0, 1) := by decide +kernel
theorem dX6_jury_74 : decode cX6_jury 74 = .ok (.getfield 16, 3) := by decide +kernel
theorem dX6_jury_77 : decode cX6_jury 77 = .ok (.iconst 0, 1) := by decide +kernel
theorem dX6_jury_78 : decode cX6_jury 78 = .ok (.dup2, 1) := by decide +kernel
theorem dX6_jury_79 : decode cX6_jury 79 = .ok (.iaload, 1) := by decide +kernel
theorem dX6_jury_80 : decode cX6_jury 80 = .ok (.aload_n 0, 1) := by decide +kernel
theorem dX6_jury_81 : decode cX6_jury 81 = .ok (.getfield 19, 3) := by decide +kernel
theorem dX6_jury_84 : decode cX6_jury 84 = .ok (.iconst 3, 1) := by decide +kernel
theorem dX6_jury_85 : decode cX6_jury 85 = .ok (.iload_n 1, 1) := by decide +kernel
theorem dX6_jury_86 : decode cX6_jury 86 = .ok (.imul, 1) := by decide +kernel
theorem dX6_jury_87 : decode cX6_jury 87 = .ok (.iaload, 1) := by decide +kernel
theorem dX6_jury_88 : decode cX6_jury 88 = .ok (.iload_n 1, 1) := by decide +kernel
theorem dX6_jury_89 : decode cX6_jury 89 = .ok (.ishl, 1) := by decide +kernel
theorem dX6_jury_90 : decode cX6_jury 90 = .ok (.ior, 1) := by decide +kernel
theorem dX6_jury_91 : decode cX6_jury 91 = .ok (.iastore, 1) := by decide +kernel
theorem dX6_jury_92 : decode cX6_jury 92 = .ok (.aload_n 0, 1) := by decide +kernel
theorem dX6_jury_93 : decode cX6_jury 93 = .ok (.getfield 16, 3) := by decide +kernel
theorem dX6_jury_96 : decode cX6_jury 96 = .ok (.iconst 3, 1) := by decide +kernel
theorem dX6_jury_97 : decode cX6_jury 97 = .ok (.iload_n 1, 1) := by decide +kernel
theorem dX6_jury_98 : decode cX6_jury 98 = .ok (.iadd, 1) := by decide +kernel
theorem dX6_jury_99 : decode cX6_jury 99 = .ok (.aload_n 0, 1) := by decide +kernel
theorem dX6_jury_100 : decode cX6_jury 100 = .ok (.getfield 19, 3) := by decide +kernel
theorem dX6_jury_103 : decode cX6_jury 103 = .ok (.iconst 3, 1) := by decide +kernel
theorem dX6_jury_104 : decode cX6_jury 104 = .ok (.iload_n 1, 1) := by decide +kernel
theorem dX6_jury_105 : decode cX6_jury 105 = .ok (.imul, 1) := by decide +kernel
theorem dX6_jury_106 : decode cX6_jury 106 = .ok (.iconst 1, 1) := by decide +kernel
theorem dX6_jury_107 : decode cX6_jury 107 = .ok (.iadd, 1) := by decide +kernel
theorem dX6_jury_108 : decode cX6_jury 108 = .ok (.iaload, 1) := by decide +kernel
theorem dX6_jury_109 : decode cX6_jury 109 = .ok (.iastore, 1) := by decide +kernel
theorem dX6_jury_110 : decode cX6_jury 110 = .ok (.aload_n 0, 1) := by decide +kernel
theorem dX6_jury_111 : decode cX6_jury 111 = .ok (.getfield 7, 3) := by decide +kernel
theorem dX6_jury_114 : decode cX6_jury 114 = .ok (.iload_n 1, 1) := by decide +kernel
theorem dX6_jury_115 : decode cX6_jury 115 = .ok (.aload_n 0, 1) := by decide +kernel
theorem dX6_jury_116 : decode cX6_jury 116 = .ok (.getfield 19, 3) := by decide +kernel
theorem dX6_jury_119 : decode cX6_jury 119 = .ok (.iconst 3, 1) := by decide +kernel
theorem dX6_jury_120 : decode cX6_jury 120 = .ok (.iload_n 1, 1) := by decide +kernel
theorem dX6_jury_121 : decode cX6_jury 121 = .ok (.imul, 1) := by decide +kernel
theorem dX6_jury_122 : decode cX6_jury 122 = .ok (.iconst 2, 1) := by decide +kernel
theorem dX6_jury_123 : decode cX6_jury 123 = .ok (.iadd, 1) := by decide +kernel
theorem dX6_jury_124 : decode cX6_jury 124 = .ok (.iaload, 1) := by decide +kernel
theorem dX6_jury_125 : decode cX6_jury 125 = .ok (.iastore, 1) := by decide +kernel
theorem dX6_jury_126 : decode cX6_jury 126 = .ok (.aload_n 0, 1) := by decide +kernel
theorem dX6_jury_127 : decode cX6_jury 127 = .ok (.getfield 13, 3) := by decide +kernel
theorem dX6_jury_130 : decode cX6_jury 130 = .ok (.iload_n 1, 1) := by decide +kernel
theorem dX6_jury_131 : decode cX6_jury 131 = .ok (.aload_n 0, 1) := by decide +kernel
theorem dX6_jury_132 : decode cX6_jury 132 = .ok (.getfield 22, 3) := by decide +kernel
theorem dX6_jury_135 : decode cX6_jury 135 = .ok (.iload_n 1, 1) := by decide +kernel
theorem dX6_jury_136 : decode cX6_jury 136 = .ok (.iaload, 1) := by decide +kernel
theorem dX6_jury_137 : decode cX6_jury 137 = .ok (.iastore, 1) := by decide +kernel
theorem dX6_jury_138 : decode cX6_jury 138 = .ok (.iinc 1 1, 3) := by decide +kernel
theorem dX6_jury_141 : decode cX6_jury 141 = .ok (.goto (-76), 3) := by decide +kernel
theorem dX6_jury_144 : decode cX6_jury 144 = .ok (.aload_n 0, 1) := by decide +kernel
theorem dX6_jury_145 : decode cX6_jury 145 = .ok (.iconst 0, 1) := by decide +kernel
theorem dX6_jury_146 : decode cX6_jury 146 = .ok (.putfield 99, 3) := by decide +kernel
theorem dX6_jury_149 : decode cX6_jury 149 = .ok (.aload_n 0, 1) := by decide +kernel
theorem dX6_jury_150 : decode cX6_jury 150 = .ok (.getfield 40, 3) := by decide +kernel
theorem dX6_jury_153 : decode cX6_jury 153 = .ok (.iconst 0, 1) := by decide +kernel
theorem dX6_jury_154 : decode cX6_jury 154 = .ok (.iconst 0, 1) := by decide +kernel
theorem dX6_jury_155 : decode cX6_jury 155 = .ok (.bastore, 1) := by decide +kernel
theorem dX6_jury_156 : decode cX6_jury 156 = .ok (.aload_n 0, 1) := by decide +kernel
theorem dX6_jury_157 : decode cX6_jury 157 = .ok (.getfield 40, 3) := by decide +kernel
theorem dX6_jury_160 : decode cX6_jury 160 = .ok (.iconst 1, 1) := by decide +kernel
theorem dX6_jury_161 : decode cX6_jury 161 = .ok (.iconst 0, 1) := by decide +kernel
theorem dX6_jury_162 : decode cX6_jury 162 = .ok (.bastore, 1) := by decide +kernel
theorem dX6_jury_163 : decode cX6_jury 163 = .ok (.aload_n 0, 1) := by decide +kernel
theorem dX6_jury_164 : decode cX6_jury 164 = .ok (.getfield 96, 3) := by decide +kernel
theorem dX6_jury_167 : decode cX6_jury 167 = .ok (.ireturn, 1) := by decide +kernel
set_option maxRecDepth 20000 in
theorem ggX6_isJuror_X6_in : GoodIn wsX6_isJuror wsX6_in := goodIn_r _ [5] (by decide +kernel) (by decide +kernel)
set_option maxRecDepth 20000 in
theorem gX6_isJuror_X6_in : GoodIn wsX6_isJuror (va_wsS RX6 53 yX6_in wsX6_in) := goodIn_app (goodIn_of _ (by decide +kernel)) ggX6_isJuror_X6_in
theorem dX6_isJuror_0 : decode cX6_isJuror 0 = .ok (.iload_n 1, 1) := by decide +kernel
theorem dX6_isJuror_1 : decode cX6_isJuror 1 = .ok (.i2l, 1) := by decide +kernel
theorem dX6_isJuror_2 : decode cX6_isJuror 2 = .ok (.lconst 0, 1) := by decide +kernel
theorem dX6_isJuror_3 : decode cX6_isJuror 3 = .ok (.aload_n 0, 1) := by decide +kernel
theorem dX6_isJuror_4 : decode cX6_isJuror 4 = .ok (.getfield 96, 3) := by decide +kernel
theorem dX6_isJuror_7 : decode cX6_isJuror 7 = .ok (.iconst 1, 1) := by decide +kernel
theorem dX6_isJuror_8 : decode cX6_isJuror 8 = .ok (.isub, 1) := by decide +kernel
theorem dX6_isJuror_9 : decode cX6_isJuror 9 = .ok (.i2l, 1) := by decide +kernel
theorem dX6_isJuror_10 : decode cX6_isJuror 10 = .ok (.invokestatic 53, 3) := by decide +kernel
theorem dX6_isJuror_13 : decode cX6_isJuror 13 = .ok (.ireturn, 1) := by decide +kernel
set_option maxRecDepth 20000 in
theorem ggX6_isThere_X6_has : GoodIn wsX6_isThere wsX6_has := goodIn_r _ [5] (by decide +kernel) (by decide +kernel)
set_option maxRecDepth 20000 in
theorem gX6_isThere_X6_has : GoodIn wsX6_isThere (va_wsS RX6 68 yX6_has wsX6_has) := goodIn_app (goodIn_of _ (by decide +kernel)) ggX6_isThere_X6_has
theorem dX6_isThere_0 : decode cX6_isThere 0 = .ok (.aload_n 0, 1) := by decide +kernel
theorem dX6_isThere_1 : decode cX6_isThere 1 = .ok (.getfield 16, 3) := by decide +kernel
theorem dX6_isThere_4 : decode cX6_isThere 4 = .ok (.bipush 15, 2) := by decide +kernel
theorem dX6_isThere_6 : decode cX6_isThere 6 = .ok (.iload_n 1, 1) := by decide +kernel
theorem dX6_isThere_7 : decode cX6_isThere 7 = .ok (.imul, 1) := by decide +kernel
theorem dX6_isThere_8 : decode cX6_isThere 8 = .ok (.iconst 1, 1) := by decide +kernel
theorem dX6_isThere_9 : decode cX6_isThere 9 = .ok (.iadd, 1) := by decide +kernel
theorem dX6_isThere_10 : decode cX6_isThere 10 = .ok (.iaload, 1) := by decide +kernel
theorem dX6_isThere_11 : decode cX6_isThere 11 = .ok (.iload_n 2, 1) := by decide +kernel
theorem dX6_isThere_12 : decode cX6_isThere 12 = .ok (.invokestatic 68, 3) := by decide +kernel
theorem dX6_isThere_15 : decode cX6_isThere 15 = .ok (.ireturn, 1) := by decide +kernel
set_option maxRecDepth 20000 in
theorem ggX6_verdict_X6_ones : GoodIn wsX6_verdict wsX6_ones := goodIn_r _ [6] (by decide +kernel) (by decide +kernel)
set_option maxRecDepth 20000 in
theorem gX6_verdict_X6_ones : GoodIn wsX6_verdict (va_wsS RX6 102 yX6_ones wsX6_ones) := goodIn_app (goodIn_of _ (by decide +kernel)) ggX6_verdict_X6_ones
theorem dX6_verdict_0 : decode cX6_verdict 0 = .ok (.aload_n 0, 1) := by decide +kernel
theorem dX6_verdict_1 : decode cX6_verdict 1 = .ok (.getfield 16, 3) := by decide +kernel
theorem dX6_verdict_4 : decode cX6_verdict 4 = .ok (.bipush 15, 2) := by decide +kernel
theorem dX6_verdict_6 : decode cX6_verdict 6 = .ok (.iload_n 1, 1) := by decide +kernel
theorem dX6_verdict_7 : decode cX6_verdict 7 = .ok (.imul, 1) := by decide +kernel
theorem dX6_verdict_8 : decode cX6_verdict 8 = .ok (.iconst 1, 1) := by decide +kernel
theorem dX6_verdict_9 : decode cX6_verdict 9 = .ok (.iadd, 1) := by decide +kernel
theorem dX6_verdict_10 : decode cX6_verdict 10 = .ok (.iaload, 1) := by decide +kernel
theorem dX6_verdict_11 : decode cX6_verdict 11 = .ok (.istore_n 2, 1) := by decide +kernel
theorem dX6_verdict_12 : decode cX6_verdict 12 = .ok (.aload_n 0, 1) := by decide +kernel
theorem dX6_verdict_13 : decode cX6_verdict 13 = .ok (.getfield 16, 3) := by decide +kernel
theorem dX6_verdict_16 : decode cX6_verdict 16 = .ok (.bipush 15, 2) := by decide +kernel
theorem dX6_verdict_18 : decode cX6_verdict 18 = .ok (.iload_n 1, 1) := by decide +kernel
theorem dX6_verdict_19 : decode cX6_verdict 19 = .ok (.imul, 1) := by decide +kernel
theorem dX6_verdict_20 : decode cX6_verdict 20 = .ok (.iaload, 1) := by decide +kernel
theorem dX6_verdict_21 : decode cX6_verdict 21 = .ok (.iload_n 2, 1) := by decide +kernel
theorem dX6_verdict_22 : decode cX6_verdict 22 = .ok (.iand, 1) := by decide +kernel
theorem dX6_verdict_23 : decode cX6_verdict 23 = .ok (.invokestatic 102, 3) := by decide +kernel
theorem dX6_verdict_26 : decode cX6_verdict 26 = .ok (.istore_n 3, 1) := by decide +kernel
theorem dX6_verdict_27 : decode cX6_verdict 27 = .ok (.iload_n 2, 1) := by decide +kernel
theorem dX6_verdict_28 : decode cX6_verdict 28 = .ok (.invokestatic 102, 3) := by decide +kernel
theorem dX6_verdict_31 : decode cX6_verdict 31 = .ok (.iload_n 3, 1) := by decide +kernel
theorem dX6_verdict_32 : decode cX6_verdict 32 = .ok (.isub, 1) := by decide +kernel
theorem dX6_verdict_33 : decode cX6_verdict 33 = .ok (.istore 4, 2) := by decide +kernel
theorem dX6_verdict_35 : decode cX6_verdict 35 = .ok (.iload_n 3, 1) := by decide +kernel
theorem dX6_verdict_36 : decode cX6_verdict 36 = .ok (.ifCond .le 8, 3) := by decide +kernel
theorem dX6_verdict_39 : decode cX6_verdict 39 = .ok (.iload 4, 2) := by decide +kernel
theorem dX6_verdict_41 : decode cX6_verdict 41 = .ok (.ifCond .eq 17, 3) := by decide +kernel
theorem dX6_verdict_44 : decode cX6_verdict 44 = .ok (.iload_n 3, 1) := by decide +kernel
theorem dX6_verdict_45 : decode cX6_verdict 45 = .ok (.aload_n 0, 1) := by decide +kernel
theorem dX6_verdict_46 : decode cX6_verdict 46 = .ok (.getfield 47, 3) := by decide +kernel
theorem dX6_verdict_49 : decode cX6_verdict 49 = .ok (.if_icmp .lt 11, 3) := by decide +kernel
theorem dX6_verdict_52 : decode cX6_verdict 52 = .ok (.iload_n 3, 1) := by decide +kernel
theorem dX6_verdict_53 : decode cX6_verdict 53 = .ok (.iload 4, 2) := by decide +kernel
theorem dX6_verdict_55 : decode cX6_verdict 55 = .ok (.if_icmp .le 5, 3) := by decide +kernel
theorem dX6_verdict_58 : decode cX6_verdict 58 = .ok (.iconst 1, 1) := by decide +kernel
theorem dX6_verdict_59 : decode cX6_verdict 59 = .ok (.ireturn, 1) := by decide +kernel
theorem dX6_verdict_60 : decode cX6_verdict 60 = .ok (.iload 4, 2) := by decide +kernel
theorem dX6_verdict_62 : decode cX6_verdict 62 = .ok (.ifCond .le 7, 3) := by decide +kernel
theorem dX6_verdict_65 : decode cX6_verdict 65 = .ok (.iload_n 3, 1) := by decide +kernel
theorem dX6_verdict_66 : decode cX6_verdict 66 = .ok (.ifCond .eq 18, 3) := by decide +kernel
theorem dX6_verdict_69 : decode cX6_verdict 69 = .ok (.iload 4, 2) := by decide +kernel
theorem dX6_verdict_71 : decode cX6_verdict 71 = .ok (.aload_n 0, 1) := by decide +kernel
theorem dX6_verdict_72 : decode cX6_verdict 72 = .ok (.getfield 47, 3) := by decide +kernel
theorem dX6_verdict_75 : decode cX6_verdict 75 = .ok (.if_icmp .lt 13, 3) := by decide +kernel
theorem dX6_verdict_78 : decode cX6_verdict 78 = .ok (.iload 4, 2) := by decide +kernel
theorem dX6_verdict_80 : decode cX6_verdict 80 = .ok (.iload_n 3, 1) := by decide +kernel
theorem dX6_verdict_81 : decode cX6_verdict 81 = .ok (.if_icmp .le 7, 3) := by decide +kernel
theorem dX6_verdict_84 : decode cX6_verdict 84 = .ok (.iconst 0, 1) := by decide +kernel
theorem dX6_verdict_85 : decode cX6_verdict 85 = .ok (.goto 5, 3) := by decide +kernel
theorem dX6_verdict_88 : decode cX6_verdict 88 = .ok (.bipush 9, 2) := by decide +kernel
theorem dX6_verdict_90 : decode cX6_verdict 90 = .ok (.ireturn, 1) := by decide +kernel
theorem dX6_hungerOn_0 : decode cX6_hungerOn 0 = .ok (.bipush 15, 2) := by decide +kernel
theorem dX6_hungerOn_2 : decode cX6_hungerOn 2 = .ok (.iload_n 1, 1) := by decide +kernel
theorem dX6_hungerOn_3 : decode cX6_hungerOn 3 = .ok (.imul, 1) := by decide +kernel
theorem dX6_hungerOn_4 : decode cX6_hungerOn 4 = .ok (.istore_n 3, 1) := by decide +kernel
theorem dX6_hungerOn_5 : decode cX6_hungerOn 5 = .ok (.aload_n 0, 1) := by decide +kernel
theorem dX6_hungerOn_6 : decode cX6_hungerOn 6 = .ok (.getfield 7, 3) := by decide +kernel
theorem dX6_hungerOn_9 : decode cX6_hungerOn 9 = .ok (.iload_n 2, 1) := by decide +kernel
theorem dX6_hungerOn_10 : decode cX6_hungerOn 10 = .ok (.iaload, 1) := by decide +kernel
theorem dX6_hungerOn_11 : decode cX6_hungerOn 11 = .ok (.iconst 1, 1) := by decide +kernel
theorem dX6_hungerOn_12 : decode cX6_hungerOn 12 = .ok (.if_icmp .ne 7, 3) := by decide +kernel
theorem dX6_hungerOn_15 : decode cX6_hungerOn 15 = .ok (.iconst 2, 1) := by decide +kernel
theorem dX6_hungerOn_16 : decode cX6_hungerOn 16 = .ok (.goto 32, 3) := by decide +kernel
theorem dX6_hungerOn_19 : decode cX6_hungerOn 19 = .ok (.aload_n 0, 1) := by decide +kernel
theorem dX6_hungerOn_20 : decode cX6_hungerOn 20 = .ok (.getfield 7, 3) := by decide +kernel
theorem dX6_hungerOn_23 : decode cX6_hungerOn 23 = .ok (.iload_n 2, 1) := by decide +kernel
theorem dX6_hungerOn_24 : decode cX6_hungerOn 24 = .ok (.iaload, 1) := by decide +kernel
theorem dX6_hungerOn_25 : decode cX6_hungerOn 25 = .ok (.iconst 2, 1) := by decide +kernel
theorem dX6_hungerOn_26 : decode cX6_hungerOn 26 = .ok (.if_icmp .ne 21, 3) := by decide +kernel
theorem dX6_hungerOn_29 : decode cX6_hungerOn 29 = .ok (.aload_n 0, 1) := by decide +kernel
theorem dX6_hungerOn_30 : decode cX6_hungerOn 30 = .ok (.getfield 16, 3) := by decide +kernel
theorem dX6_hungerOn_33 : decode cX6_hungerOn 33 = .ok (.iload_n 3, 1) := by decide +kernel
theorem dX6_hungerOn_34 : decode cX6_hungerOn 34 = .ok (.iconst 2, 1) := by decide +kernel
theorem dX6_hungerOn_35 : decode cX6_hungerOn 35 = .ok (.iadd, 1) := by decide +kernel
theorem dX6_hungerOn_36 : decode cX6_hungerOn 36 = .ok (.iaload, 1) := by decide +kernel
theorem dX6_hungerOn_37 : decode cX6_hungerOn 37 = .ok (.iconst 2, 1) := by decide +kernel
theorem dX6_hungerOn_38 : decode cX6_hungerOn 38 = .ok (.irem, 1) := by decide +kernel
theorem dX6_hungerOn_39 : decode cX6_hungerOn 39 = .ok (.iconst 1, 1) := by decide +kernel
theorem dX6_hungerOn_40 : decode cX6_hungerOn 40 = .ok (.if_icmp .ne 7, 3) := by decide +kernel
theorem dX6_hungerOn_43 : decode cX6_hungerOn 43 = .ok (.iconst 0, 1) := by decide +kernel
theorem dX6_hungerOn_44 : decode cX6_hungerOn 44 = .ok (.goto 4, 3) := by decide +kernel
theorem dX6_hungerOn_47 : decode cX6_hungerOn 47 = .ok (.iconst 1, 1) := by decide +kernel
theorem dX6_hungerOn_48 : decode cX6_hungerOn 48 = .ok (.istore 4, 2) := by decide +kernel
theorem dX6_hungerOn_50 : decode cX6_hungerOn 50 = .ok (.aload_n 0, 1) := by decide +kernel
theorem dX6_hungerOn_51 : decode cX6_hungerOn 51 = .ok (.getfield 16, 3) := by decide +kernel
theorem dX6_hungerOn_54 : decode cX6_hungerOn 54 = .ok (.iload_n 3, 1) := by decide +kernel
theorem dX6_hungerOn_55 : decode cX6_hungerOn 55 = .ok (.bipush 9, 2) := by decide +kernel
theorem dX6_hungerOn_57 : decode cX6_hungerOn 57 = .ok (.iadd, 1) := by decide +kernel
theorem dX6_hungerOn_58 : decode cX6_hungerOn 58 = .ok (.iload_n 2, 1) := by decide +kernel
theorem dX6_hungerOn_59 : decode cX6_hungerOn 59 = .ok (.iadd, 1) := by decide +kernel
theorem dX6_hungerOn_60 : decode cX6_hungerOn 60 = .ok (.iaload, 1) := by decide +kernel
theorem dX6_hungerOn_61 : decode cX6_hungerOn 61 = .ok (.iload 4, 2) := by decide +kernel
theorem dX6_hungerOn_63 : decode cX6_hungerOn 63 = .ok (.iadd, 1) := by decide +kernel
theorem dX6_hungerOn_64 : decode cX6_hungerOn 64 = .ok (.istore 5, 2) := by decide +kernel
theorem dX6_hungerOn_66 : decode cX6_hungerOn 66 = .ok (.aload_n 0, 1) := by decide +kernel
theorem dX6_hungerOn_67 : decode cX6_hungerOn 67 = .ok (.getfield 16, 3) := by decide +kernel
theorem dX6_hungerOn_70 : decode cX6_hungerOn 70 = .ok (.iload_n 3, 1) := by decide +kernel
theorem dX6_hungerOn_71 : decode cX6_hungerOn 71 = .ok (.bipush 9, 2) := by decide +kernel
theorem dX6_hungerOn_73 : decode cX6_hungerOn 73 = .ok (.iadd, 1) := by decide +kernel
theorem dX6_hungerOn_74 : decode cX6_hungerOn 74 = .ok (.iload_n 2, 1) := by decide +kernel
theorem dX6_hungerOn_75 : decode cX6_hungerOn 75 = .ok (.iadd, 1) := by decide +kernel
theorem dX6_hungerOn_76 : decode cX6_hungerOn 76 = .ok (.iload 5, 2) := by decide +kernel
theorem dX6_hungerOn_78 : decode cX6_hungerOn 78 = .ok (.bipush 20, 2) := by decide +kernel
theorem dX6_hungerOn_80 : decode cX6_hungerOn 80 = .ok (.if_icmp .le 8, 3) := by decide +kernel
theorem dX6_hungerOn_83 : decode cX6_hungerOn 83 = .ok (.bipush 20, 2) := by decide +kernel
theorem dX6_hungerOn_85 : decode cX6_hungerOn 85 = .ok (.goto 5, 3) := by decide +kernel
theorem dX6_hungerOn_88 : decode cX6_hungerOn 88 = .ok (.iload 5, 2) := by decide +kernel
theorem dX6_hungerOn_90 : decode cX6_hungerOn 90 = .ok (.iastore, 1) := by decide +kernel
theorem dX6_hungerOn_91 : decode cX6_hungerOn 91 = .ok (.return_, 1) := by decide +kernel
set_option maxRecDepth 20000 in
theorem ggX6_givesIn_X6_has : GoodIn wsX6_givesIn wsX6_has := goodIn_r _ [7] (by decide +kernel) (by decide +kernel)
set_option maxRecDepth 20000 in
theorem gX6_givesIn_X6_has : GoodIn wsX6_givesIn (va_wsS RX6 68 yX6_has wsX6_has) := goodIn_app (goodIn_of _ (by decide +kernel)) ggX6_givesIn_X6_has
set_option maxRecDepth 20000 in
theorem ggX6_givesIn_X6_ones : GoodIn wsX6_givesIn wsX6_ones := goodIn_r _ [10] (by decide +kernel) (by decide +kernel)
set_option maxRecDepth 20000 in
theorem gX6_givesIn_X6_ones : GoodIn wsX6_givesIn (va_wsS RX6 102 yX6_ones wsX6_ones) := goodIn_app (goodIn_of _ (by decide +kernel)) ggX6_givesIn_X6_ones
theorem dX6_givesIn_0 : decode cX6_givesIn 0 = .ok (.bipush 15, 2) := by decide +kernel
theorem dX6_givesIn_2 : decode cX6_givesIn 2 = .ok (.iload_n 1, 1) := by decide +kernel
theorem dX6_givesIn_3 : decode cX6_givesIn 3 = .ok (.imul, 1) := by decide +kernel
theorem dX6_givesIn_4 : decode cX6_givesIn 4 = .ok (.istore_n 3, 1) := by decide +kernel
theorem dX6_givesIn_5 : decode cX6_givesIn 5 = .ok (.aload_n 0, 1) := by decide +kernel
theorem dX6_givesIn_6 : decode cX6_givesIn 6 = .ok (.getfield 16, 3) := by decide +kernel
theorem dX6_givesIn_9 : decode cX6_givesIn 9 = .ok (.iload_n 3, 1) := by decide +kernel
theorem dX6_givesIn_10 : decode cX6_givesIn 10 = .ok (.iconst 1, 1) := by decide +kernel
theorem dX6_givesIn_11 : decode cX6_givesIn 11 = .ok (.iadd, 1) := by decide +kernel
theorem dX6_givesIn_12 : decode cX6_givesIn 12 = .ok (.iaload, 1) := by decide +kernel
theorem dX6_givesIn_13 : decode cX6_givesIn 13 = .ok (.istore 4, 2) := by decide +kernel
theorem dX6_givesIn_15 : decode cX6_givesIn 15 = .ok (.aload_n 0, 1) := by decide +kernel
theorem dX6_givesIn_16 : decode cX6_givesIn 16 = .ok (.getfield 16, 3) := by decide +kernel
theorem dX6_givesIn_19 : decode cX6_givesIn 19 = .ok (.iload_n 3, 1) := by decide +kernel
theorem dX6_givesIn_20 : decode cX6_givesIn 20 = .ok (.iaload, 1) := by decide +kernel
theorem dX6_givesIn_21 : decode cX6_givesIn 21 = .ok (.iload_n 2, 1) := by decide +kernel
theorem dX6_givesIn_22 : decode cX6_givesIn 22 = .ok (.invokestatic 68, 3) := by decide +kernel
theorem dX6_givesIn_25 : decode cX6_givesIn 25 = .ok (.ifCond .eq 15, 3) := by decide +kernel
theorem dX6_givesIn_28 : decode cX6_givesIn 28 = .ok (.aload_n 0, 1) := by decide +kernel
theorem dX6_givesIn_29 : decode cX6_givesIn 29 = .ok (.getfield 16, 3) := by decide +kernel
theorem dX6_givesIn_32 : decode cX6_givesIn 32 = .ok (.iload_n 3, 1) := by decide +kernel
theorem dX6_givesIn_33 : decode cX6_givesIn 33 = .ok (.iaload, 1) := by decide +kernel
theorem dX6_givesIn_34 : decode cX6_givesIn 34 = .ok (.iload 4, 2) := by decide +kernel
theorem dX6_givesIn_36 : decode cX6_givesIn 36 = .ok (.iand, 1) := by decide +kernel
theorem dX6_givesIn_37 : decode cX6_givesIn 37 = .ok (.goto 14, 3) := by decide +kernel
theorem dX6_givesIn_40 : decode cX6_givesIn 40 = .ok (.iload 4, 2) := by decide +kernel
theorem dX6_givesIn_42 : decode cX6_givesIn 42 = .ok (.aload_n 0, 1) := by decide +kernel
theorem dX6_givesIn_43 : decode cX6_givesIn 43 = .ok (.getfield 16, 3) := by decide +kernel
theorem dX6_givesIn_46 : decode cX6_givesIn 46 = .ok (.iload_n 3, 1) := by decide +kernel
theorem dX6_givesIn_47 : decode cX6_givesIn 47 = .ok (.iaload, 1) := by decide +kernel
theorem dX6_givesIn_48 : decode cX6_givesIn 48 = .ok (.iconst (-1), 1) := by decide +kernel
theorem dX6_givesIn_49 : decode cX6_givesIn 49 = .ok (.ixor, 1) := by decide +kernel
theorem dX6_givesIn_50 : decode cX6_givesIn 50 = .ok (.iand, 1) := by decide +kernel
theorem dX6_givesIn_51 : decode cX6_givesIn 51 = .ok (.istore 5, 2) := by decide +kernel
theorem dX6_givesIn_53 : decode cX6_givesIn 53 = .ok (.iload 4, 2) := by decide +kernel
theorem dX6_givesIn_55 : decode cX6_givesIn 55 = .ok (.iload 5, 2) := by decide +kernel
theorem dX6_givesIn_57 : decode cX6_givesIn 57 = .ok (.iconst (-1), 1) := by decide +kernel
theorem dX6_givesIn_58 : decode cX6_givesIn 58 = .ok (.ixor, 1) := by decide +kernel
theorem dX6_givesIn_59 : decode cX6_givesIn 59 = .ok (.iand, 1) := by decide +kernel
theorem dX6_givesIn_60 : decode cX6_givesIn 60 = .ok (.istore 6, 2) := by decide +kernel
theorem dX6_givesIn_62 : decode cX6_givesIn 62 = .ok (.iload 6, 2) := by decide +kernel
theorem dX6_givesIn_64 : decode cX6_givesIn 64 = .ok (.invokestatic 102, 3) := by decide +kernel
theorem dX6_givesIn_67 : decode cX6_givesIn 67 = .ok (.iload 5, 2) := by decide +kernel
theorem dX6_givesIn_69 : decode cX6_givesIn 69 = .ok (.invokestatic 102, 3) := by decide +kernel
theorem dX6_givesIn_72 : decode cX6_givesIn 72 = .ok (.isub, 1) := by decide +kernel
theorem dX6_givesIn_73 : decode cX6_givesIn 73 = .ok (.istore 7, 2) := by decide +kernel
theorem dX6_givesIn_75 : decode cX6_givesIn 75 = .ok (.aload_n 0, 1) := by decide +kernel
theorem dX6_givesIn_76 : decode cX6_givesIn 76 = .ok (.getfield 16, 3) := by decide +kernel
theorem dX6_givesIn_79 : decode cX6_givesIn 79 = .ok (.iload_n 3, 1) := by decide +kernel
theorem dX6_givesIn_80 : decode cX6_givesIn 80 = .ok (.bipush 9, 2) := by decide +kernel
theorem dX6_givesIn_82 : decode cX6_givesIn 82 = .ok (.iadd, 1) := by decide +kernel
theorem dX6_givesIn_83 : decode cX6_givesIn 83 = .ok (.iload_n 2, 1) := by decide +kernel
theorem dX6_givesIn_84 : decode cX6_givesIn 84 = .ok (.iadd, 1) := by decide +kernel
theorem dX6_givesIn_85 : decode cX6_givesIn 85 = .ok (.iaload, 1) := by decide +kernel
theorem dX6_givesIn_86 : decode cX6_givesIn 86 = .ok (.istore 8, 2) := by decide +kernel
theorem dX6_givesIn_88 : decode cX6_givesIn 88 = .ok (.aload_n 0, 1) := by decide +kernel
theorem dX6_givesIn_89 : decode cX6_givesIn 89 = .ok (.getfield 7, 3) := by decide +kernel
theorem dX6_givesIn_92 : decode cX6_givesIn 92 = .ok (.iload_n 2, 1) := by decide +kernel
theorem dX6_givesIn_93 : decode cX6_givesIn 93 = .ok (.iaload, 1) := by decide +kernel
theorem dX6_givesIn_94 : decode cX6_givesIn 94 = .ok (.iconst 3, 1) := by decide +kernel
theorem dX6_givesIn_95 : decode cX6_givesIn 95 = .ok (.if_icmp .ne 8, 3) := by decide +kernel
theorem dX6_givesIn_98 : decode cX6_givesIn 98 = .ok (.iload 8, 2) := by decide +kernel
theorem dX6_givesIn_100 : decode cX6_givesIn 100 = .ok (.goto 23, 3) := by decide +kernel
theorem dX6_givesIn_103 : decode cX6_givesIn 103 = .ok (.iload 8, 2) := by decide +kernel
theorem dX6_givesIn_105 : decode cX6_givesIn 105 = .ok (.iload 7, 2) := by decide +kernel
theorem dX6_givesIn_107 : decode cX6_givesIn 107 = .ok (.iadd, 1) := by decide +kernel
theorem dX6_givesIn_108 : decode cX6_givesIn 108 = .ok (.iconst 2, 1) := by decide +kernel
theorem dX6_givesIn_109 : decode cX6_givesIn 109 = .ok (.aload_n 0, 1) := by decide +kernel
theorem dX6_givesIn_110 : decode cX6_givesIn 110 = .ok (.getfield 13, 3) := by decide +kernel
theorem dX6_givesIn_113 : decode cX6_givesIn 113 = .ok (.iload_n 2, 1) := by decide +kernel
theorem dX6_givesIn_114 : decode cX6_givesIn 114 = .ok (.iaload, 1) := by decide +kernel
theorem dX6_givesIn_115 : decode cX6_givesIn 115 = .ok (.iload 6, 2) := by decide +kernel
theorem dX6_givesIn_117 : decode cX6_givesIn 117 = .ok (.iand, 1) := by decide +kernel
theorem dX6_givesIn_118 : decode cX6_givesIn 118 = .ok (.invokestatic 102, 3) := by decide +kernel
theorem dX6_givesIn_121 : decode cX6_givesIn 121 = .ok (.imul, 1) := by decide +kernel
theorem dX6_givesIn_122 : decode cX6_givesIn 122 = .ok (.iadd, 1) := by decide +kernel
theorem dX6_givesIn_123 : decode cX6_givesIn 123 = .ok (.istore 9, 2) := by decide +kernel
theorem dX6_givesIn_125 : decode cX6_givesIn 125 = .ok (.iload 7, 2) := by decide +kernel
theorem dX6_givesIn_127 : decode cX6_givesIn 127 = .ok (.ifCond .le 22, 3) := by decide +kernel
theorem dX6_givesIn_130 : decode cX6_givesIn 130 = .ok (.iload 9, 2) := by decide +kernel
theorem dX6_givesIn_132 : decode cX6_givesIn 132 = .ok (.aload_n 0, 1) := by decide +kernel
theorem dX6_givesIn_133 : decode cX6_givesIn 133 = .ok (.getfield 16, 3) := by decide +kernel
theorem dX6_givesIn_136 : decode cX6_givesIn 136 = .ok (.iload_n 3, 1) := by decide +kernel
theorem dX6_givesIn_137 : decode cX6_givesIn 137 = .ok (.iconst 3, 1) := by decide +kernel
theorem dX6_givesIn_138 : decode cX6_givesIn 138 = .ok (.iadd, 1) := by decide +kernel
theorem dX6_givesIn_139 : decode cX6_givesIn 139 = .ok (.iload_n 2, 1) := by decide +kernel
theorem dX6_givesIn_140 : decode cX6_givesIn 140 = .ok (.iadd, 1) := by decide +kernel
theorem dX6_givesIn_141 : decode cX6_givesIn 141 = .ok (.iaload, 1) := by decide +kernel
theorem dX6_givesIn_142 : decode cX6_givesIn 142 = .ok (.if_icmp .lt 7, 3) := by decide +kernel
theorem dX6_givesIn_145 : decode cX6_givesIn 145 = .ok (.iconst 1, 1) := by decide +kernel
theorem dX6_givesIn_146 : decode cX6_givesIn 146 = .ok (.goto 4, 3) := by decide +kernel
theorem dX6_givesIn_149 : decode cX6_givesIn 149 = .ok (.iconst 0, 1) := by decide +kernel
theorem dX6_givesIn_150 : decode cX6_givesIn 150 = .ok (.ireturn, 1) := by decide +kernel
set_option maxRecDepth 20000 in
theorem ggX6_passOn_X6_verdict : GoodIn wsX6_passOn wsX6_verdict := goodIn_r _ [7, 1, 8, 9, 10, 6, 11, 29, 30, 31, 32, 33, 34, 35, 36, 37, 38, 39, 40, 41, 42, 43, 44, 45, 46, 47, 48, 49, 50, 51, 52] (by decide +kernel) (by decide +kernel)
set_option maxRecDepth 20000 in
theorem gX6_passOn_X6_verdict : GoodIn wsX6_passOn (wsV RX6 105 RX6 yX6_verdict wsX6_verdict) := goodIn_app (goodIn_of _ (by decide +kernel)) ggX6_passOn_X6_verdict
set_option maxRecDepth 20000 in
theorem ggX6_passOn_X6_isThere : GoodIn wsX6_passOn wsX6_isThere := goodIn_r _ [15, 1, 16, 17, 6, 18, 29, 30, 31, 32, 33, 34, 35, 36, 37, 38, 39, 40, 41, 42, 43, 44, 45, 46, 47, 48, 49, 50, 51, 52] (by decide +kernel) (by decide +kernel)
set_option maxRecDepth 20000 in
theorem gX6_passOn_X6_isThere : GoodIn wsX6_passOn (wsV RX6 108 RX6 yX6_isThere wsX6_isThere) := goodIn_app (goodIn_of _ (by decide +kernel)) ggX6_passOn_X6_isThere
set_option maxRecDepth 20000 in
theorem ggX6_passOn_X6_hungerOn : GoodIn wsX6_passOn wsX6_hungerOn := goodIn_r _ [22, 23, 1, 29, 30, 31, 32, 33, 34, 35, 36, 37, 38, 39, 40, 41, 42, 43, 44, 45, 46, 47, 48, 49, 50, 51, 52] (by decide +kernel) (by decide +kernel)
set_option maxRecDepth 20000 in
theorem gX6_passOn_X6_hungerOn : GoodIn wsX6_passOn (wsV RX6 111 RX6 yX6_hungerOn wsX6_hungerOn) := goodIn_app (goodIn_of _ (by decide +kernel)) ggX6_passOn_X6_hungerOn
set_option maxRecDepth 20000 in
theorem ggX6_passOn_X6_givesIn : GoodIn wsX6_passOn wsX6_givesIn := goodIn_r _ [27, 1, 23, 28, 16, 17, 6, 18, 9, 10, 11, 29, 30, 31, 32, 33, 34, 35, 36, 37, 38, 39, 40, 41, 42, 43, 44, 45, 46, 47, 48, 49, 50, 51, 52] (by decide +kernel) (by decide +kernel)
set_option maxRecDepth 20000 in
theorem gX6_passOn_X6_givesIn : GoodIn wsX6_passOn (wsV RX6 115 RX6 yX6_givesIn wsX6_givesIn) := goodIn_app (goodIn_of _ (by decide +kernel)) ggX6_passOn_X6_givesIn
theorem dX6_passOn_0 : decode cX6_passOn 0 = .ok (.bipush 15, 2) := by decide +kernel
theorem dX6_passOn_2 : decode cX6_passOn 2 = .ok (.iload_n 1, 1) := by decide +kernel
theorem dX6_passOn_3 : decode cX6_passOn 3 = .ok (.imul, 1) := by decide +kernel
theorem dX6_passOn_4 : decode cX6_passOn 4 = .ok (.istore_n 2, 1) := by decide +kernel
theorem dX6_passOn_5 : decode cX6_passOn 5 = .ok (.aload_n 0, 1) := by decide +kernel
theorem dX6_passOn_6 : decode cX6_passOn 6 = .ok (.getfield 16, 3) := by decide +kernel
theorem dX6_passOn_9 : decode cX6_passOn 9 = .ok (.iload_n 2, 1) := by decide +kernel
theorem dX6_passOn_10 : decode cX6_passOn 10 = .ok (.iconst 2, 1) := by decide +kernel
theorem dX6_passOn_11 : decode cX6_passOn 11 = .ok (.iadd, 1) := by decide +kernel
theorem dX6_passOn_12 : decode cX6_passOn 12 = .ok (.dup2, 1) := by decide +kernel
theorem dX6_passOn_13 : decode cX6_passOn 13 = .ok (.iaload, 1) := by decide +kernel
theorem dX6_passOn_14 : decode cX6_passOn 14 = .ok (.iconst 1, 1) := by decide +kernel
theorem dX6_passOn_15 : decode cX6_passOn 15 = .ok (.iadd, 1) := by decide +kernel
theorem dX6_passOn_16 : decode cX6_passOn 16 = .ok (.iastore, 1) := by decide +kernel
theorem dX6_passOn_17 : decode cX6_passOn 17 = .ok (.aload_n 0, 1) := by decide +kernel
theorem dX6_passOn_18 : decode cX6_passOn 18 = .ok (.iload_n 1, 1) := by decide +kernel
theorem dX6_passOn_19 : decode cX6_passOn 19 = .ok (.invokevirtual 105, 3) := by decide +kernel
theorem dX6_passOn_22 : decode cX6_passOn 22 = .ok (.bipush 9, 2) := by decide +kernel
theorem dX6_passOn_24 : decode cX6_passOn 24 = .ok (.if_icmp .eq 5, 3) := by decide +kernel
theorem dX6_passOn_27 : decode cX6_passOn 27 = .ok (.iconst 0, 1) := by decide +kernel
theorem dX6_passOn_28 : decode cX6_passOn 28 = .ok (.ireturn, 1) := by decide +kernel
theorem dX6_passOn_29 : decode cX6_passOn 29 = .ok (.iconst 0, 1) := by decide +kernel
theorem dX6_passOn_30 : decode cX6_passOn 30 = .ok (.istore_n 3, 1) := by decide +kernel
theorem dX6_passOn_31 : decode cX6_passOn 31 = .ok (.iload_n 3, 1) := by decide +kernel
theorem dX6_passOn_32 : decode cX6_passOn 32 = .ok (.aload_n 0, 1) := by decide +kernel
theorem dX6_passOn_33 : decode cX6_passOn 33 = .ok (.getfield 96, 3) := by decide +kernel
theorem dX6_passOn_36 : decode cX6_passOn 36 = .ok (.if_icmp .ge 24, 3) := by decide +kernel
theorem dX6_passOn_39 : decode cX6_passOn 39 = .ok (.aload_n 0, 1) := by decide +kernel
theorem dX6_passOn_40 : decode cX6_passOn 40 = .ok (.iload_n 1, 1) := by decide +kernel
theorem dX6_passOn_41 : decode cX6_passOn 41 = .ok (.iload_n 3, 1) := by decide +kernel
theorem dX6_passOn_42 : decode cX6_passOn 42 = .ok (.invokevirtual 108, 3) := by decide +kernel
theorem dX6_passOn_45 : decode cX6_passOn 45 = .ok (.ifCond .eq 9, 3) := by decide +kernel
theorem dX6_passOn_48 : decode cX6_passOn 48 = .ok (.aload_n 0, 1) := by decide +kernel
theorem dX6_passOn_49 : decode cX6_passOn 49 = .ok (.iload_n 1, 1) := by decide +kernel
theorem dX6_passOn_50 : decode cX6_passOn 50 = .ok (.iload_n 3, 1) := by decide +kernel
theorem dX6_passOn_51 : decode cX6_passOn 51 = .ok (.invokevirtual 111, 3) := by decide +kernel
theorem dX6_passOn_54 : decode cX6_passOn 54 = .ok (.iinc 3 1, 3) := by decide +kernel
theorem dX6_passOn_57 : decode cX6_passOn 57 = .ok (.goto (-26), 3) := by decide +kernel
theorem dX6_passOn_60 : decode cX6_passOn 60 = .ok (.iconst 0, 1) := by decide +kernel
theorem dX6_passOn_61 : decode cX6_passOn 61 = .ok (.istore_n 3, 1) := by decide +kernel
theorem dX6_passOn_62 : decode cX6_passOn 62 = .ok (.iconst 0, 1) := by decide +kernel
theorem dX6_passOn_63 : decode cX6_passOn 63 = .ok (.istore 4, 2) := by decide +kernel
theorem dX6_passOn_65 : decode cX6_passOn 65 = .ok (.iload 4, 2) := by decide +kernel
theorem dX6_passOn_67 : decode cX6_passOn 67 = .ok (.aload_n 0, 1) := by decide +kernel
theorem dX6_passOn_68 : decode cX6_passOn 68 = .ok (.getfield 96, 3) := by decide +kernel
theorem dX6_passOn_71 : decode cX6_passOn 71 = .ok (.if_icmp .ge 45, 3) := by decide +kernel
theorem dX6_passOn_74 : decode cX6_passOn 74 = .ok (.aload_n 0, 1) := by decide +kernel
theorem dX6_passOn_75 : decode cX6_passOn 75 = .ok (.iload_n 1, 1) := by decide +kernel
theorem dX6_passOn_76 : decode cX6_passOn 76 = .ok (.iload 4, 2) := by decide +kernel
theorem dX6_passOn_78 : decode cX6_passOn 78 = .ok (.invokevirtual 108, 3) := by decide +kernel
theorem dX6_passOn_81 : decode cX6_passOn 81 = .ok (.ifCond .eq 29, 3) := by decide +kernel
theorem dX6_passOn_84 : decode cX6_passOn 84 = .ok (.aload_n 0, 1) := by decide +kernel
theorem dX6_passOn_85 : decode cX6_passOn 85 = .ok (.iload_n 1, 1) := by decide +kernel
theorem dX6_passOn_86 : decode cX6_passOn 86 = .ok (.iload 4, 2) := by decide +kernel
theorem dX6_passOn_88 : decode cX6_passOn 88 = .ok (.invokevirtual 115, 3) := by decide +kernel
theorem dX6_passOn_91 : decode cX6_passOn 91 = .ok (.ifCond .eq 19, 3) := by decide +kernel
theorem dX6_passOn_94 : decode cX6_passOn 94 = .ok (.aload_n 0, 1) := by decide +kernel
theorem dX6_passOn_95 : decode cX6_passOn 95 = .ok (.getfield 16, 3) := by decide +kernel
theorem dX6_passOn_98 : decode cX6_passOn 98 = .ok (.iload_n 2, 1) := by decide +kernel
theorem dX6_passOn_99 : decode cX6_passOn 99 = .ok (.dup2, 1) := by decide +kernel
theorem dX6_passOn_100 : decode cX6_passOn 100 = .ok (.iaload, 1) := by decide +kernel
theorem dX6_passOn_101 : decode cX6_passOn 101 = .ok (.iconst 1, 1) := by decide +kernel
theorem dX6_passOn_102 : decode cX6_passOn 102 = .ok (.iload 4, 2) := by decide +kernel
theorem dX6_passOn_104 : decode cX6_passOn 104 = .ok (.ishl, 1) := by decide +kernel
theorem dX6_passOn_105 : decode cX6_passOn 105 = .ok (.ixor, 1) := by decide +kernel
theorem dX6_passOn_106 : decode cX6_passOn 106 = .ok (.iastore, 1) := by decide +kernel
theorem dX6_passOn_107 : decode cX6_passOn 107 = .ok (.iinc 3 1, 3) := by decide +kernel
theorem dX6_passOn_110 : decode cX6_passOn 110 = .ok (.iinc 4 1, 3) := by decide +kernel
theorem dX6_passOn_113 : decode cX6_passOn 113 = .ok (.goto (-48), 3) := by decide +kernel
theorem dX6_passOn_116 : decode cX6_passOn 116 = .ok (.iload_n 3, 1) := by decide +kernel
theorem dX6_passOn_117 : decode cX6_passOn 117 = .ok (.ireturn, 1) := by decide +kernel
set_option maxRecDepth 20000 in
theorem ggX6_juror_X6_isJuror : GoodIn wsX6_juror wsX6_isJuror := goodIn_r _ [8, 9, 10, 11, 7, 12, 13, 14, 15, 16, 17, 18, 19, 20, 21, 22, 23, 24, 25, 26, 27, 28, 29, 30, 31, 32, 33, 34, 35, 36] (by decide +kernel) (by decide +kernel)
set_option maxRecDepth 20000 in
theorem gX6_juror_X6_isJuror : GoodIn wsX6_juror (wsV RX6 118 RX6 yX6_isJuror wsX6_isJuror) := goodIn_app (goodIn_of _ (by decide +kernel)) ggX6_juror_X6_isJuror
theorem dX6_juror_0 : decode cX6_juror 0 = .ok (.aload_n 0, 1) := by decide +kernel
theorem dX6_juror_1 : decode cX6_juror 1 = .ok (.iload_n 1, 1) := by decide +kernel
theorem dX6_juror_2 : decode cX6_juror 2 = .ok (.invokevirtual 118, 3) := by decide +kernel
theorem dX6_juror_5 : decode cX6_juror 5 = .ok (.ifCond .ne 5, 3) := by decide +kernel
theorem dX6_juror_8 : decode cX6_juror 8 = .ok (.iconst (-1), 1) := by decide +kernel
theorem dX6_juror_9 : decode cX6_juror 9 = .ok (.ireturn, 1) := by decide +kernel
theorem dX6_juror_10 : decode cX6_juror 10 = .ok (.iload_n 2, 1) := by decide +kernel
theorem dX6_juror_11 : decode cX6_juror 11 = .ok (.tableswitch 92 0 5 #[37, 48, 57, 64, 74, 81], 37) := by decide +kernel
theorem dX6_juror_48 : decode cX6_juror 48 = .ok (.aload_n 0, 1) := by decide +kernel
theorem dX6_juror_49 : decode cX6_juror 49 = .ok (.getfield 16, 3) := by decide +kernel
theorem dX6_juror_52 : decode cX6_juror 52 = .ok (.iconst 0, 1) := by decide +kernel
theorem dX6_juror_53 : decode cX6_juror 53 = .ok (.iaload, 1) := by decide +kernel
theorem dX6_juror_54 : decode cX6_juror 54 = .ok (.iload_n 1, 1) := by decide +kernel
theorem dX6_juror_55 : decode cX6_juror 55 = .ok (.ishr, 1) := by decide +kernel
theorem dX6_juror_56 : decode cX6_juror 56 = .ok (.iconst 1, 1) := by decide +kernel
theorem dX6_juror_57 : decode cX6_juror 57 = .ok (.iand, 1) := by decide +kernel
theorem dX6_juror_58 : decode cX6_juror 58 = .ok (.ireturn, 1) := by decide +kernel
theorem dX6_juror_59 : decode cX6_juror 59 = .ok (.aload_n 0, 1) := by decide +kernel
theorem dX6_juror_60 : decode cX6_juror 60 = .ok (.getfield 16, 3) := by decide +kernel
theorem dX6_juror_63 : decode cX6_juror 63 = .ok (.iconst 3, 1) := by decide +kernel
theorem dX6_juror_64 : decode cX6_juror 64 = .ok (.iload_n 1, 1) := by decide +kernel
theorem dX6_juror_65 : decode cX6_juror 65 = .ok (.iadd, 1) := by decide +kernel
theorem dX6_juror_66 : decode cX6_juror 66 = .ok (.iaload, 1) := by decide +kernel
theorem dX6_juror_67 : decode cX6_juror 67 = .ok (.ireturn, 1) := by decide +kernel
theorem dX6_juror_68 : decode cX6_juror 68 = .ok (.aload_n 0, 1) := by decide +kernel
theorem dX6_juror_69 : decode cX6_juror 69 = .ok (.getfield 7, 3) := by decide +kernel
theorem dX6_juror_72 : decode cX6_juror 72 = .ok (.iload_n 1, 1) := by decide +kernel
theorem dX6_juror_73 : decode cX6_juror 73 = .ok (.iaload, 1) := by decide +kernel
theorem dX6_juror_74 : decode cX6_juror 74 = .ok (.ireturn, 1) := by decide +kernel
theorem dX6_juror_75 : decode cX6_juror 75 = .ok (.aload_n 0, 1) := by decide +kernel
theorem dX6_juror_76 : decode cX6_juror 76 = .ok (.getfield 16, 3) := by decide +kernel
theorem dX6_juror_79 : decode cX6_juror 79 = .ok (.bipush 9, 2) := by decide +kernel
theorem dX6_juror_81 : decode cX6_juror 81 = .ok (.iload_n 1, 1) := by decide +kernel
theorem dX6_juror_82 : decode cX6_juror 82 = .ok (.iadd, 1) := by decide +kernel
theorem dX6_juror_83 : decode cX6_juror 83 = .ok (.iaload, 1) := by decide +kernel
theorem dX6_juror_84 : decode cX6_juror 84 = .ok (.ireturn, 1) := by decide +kernel
theorem dX6_juror_85 : decode cX6_juror 85 = .ok (.aload_n 0, 1) := by decide +kernel
theorem dX6_juror_86 : decode cX6_juror 86 = .ok (.getfield 13, 3) := by decide +kernel
theorem dX6_juror_89 : decode cX6_juror 89 = .ok (.iload_n 1, 1) := by decide +kernel
theorem dX6_juror_90 : decode cX6_juror 90 = .ok (.iaload, 1) := by decide +kernel
theorem dX6_juror_91 : decode cX6_juror 91 = .ok (.ireturn, 1) := by decide +kernel
theorem dX6_juror_92 : decode cX6_juror 92 = .ok (.aload_n 0, 1) := by decide +kernel
theorem dX6_juror_93 : decode cX6_juror 93 = .ok (.getfield 16, 3) := by decide +kernel
theorem dX6_juror_96 : decode cX6_juror 96 = .ok (.iconst 1, 1) := by decide +kernel
theorem dX6_juror_97 : decode cX6_juror 97 = .ok (.iaload, 1) := by decide +kernel
theorem dX6_juror_98 : decode cX6_juror 98 = .ok (.iload_n 1, 1) := by decide +kernel
theorem dX6_juror_99 : decode cX6_juror 99 = .ok (.ishr, 1) := by decide +kernel
theorem dX6_juror_100 : decode cX6_juror 100 = .ok (.iconst 1, 1) := by decide +kernel
theorem dX6_juror_101 : decode cX6_juror 101 = .ok (.iand, 1) := by decide +kernel
theorem dX6_juror_102 : decode cX6_juror 102 = .ok (.ireturn, 1) := by decide +kernel
theorem dX6_juror_103 : decode cX6_juror 103 = .ok (.bipush (-2), 2) := by decide +kernel
theorem dX6_juror_105 : decode cX6_juror 105 = .ok (.ireturn, 1) := by decide +kernel
theorem dX6_keepAct_0 : decode cX6_keepAct 0 = .ok (.iconst 0, 1) := by decide +kernel
theorem dX6_keepAct_1 : decode cX6_keepAct 1 = .ok (.istore_n 1, 1) := by decide +kernel
theorem dX6_keepAct_2 : decode cX6_keepAct 2 = .ok (.iload_n 1, 1) := by decide +kernel
theorem dX6_keepAct_3 : decode cX6_keepAct 3 = .ok (.bipush 15, 2) := by decide +kernel
theorem dX6_keepAct_5 : decode cX6_keepAct 5 = .ok (.if_icmp .ge 29, 3) := by decide +kernel
theorem dX6_keepAct_8 : decode cX6_keepAct 8 = .ok (.aload_n 0, 1) := by decide +kernel
theorem dX6_keepAct_9 : decode cX6_keepAct 9 = .ok (.getfield 28, 3) := by decide +kernel
theorem dX6_keepAct_12 : decode cX6_keepAct 12 = .ok (.bipush 15, 2) := by decide +kernel
theorem dX6_keepAct_14 : decode cX6_keepAct 14 = .ok (.aload_n 0, 1) := by decide +kernel
theorem dX6_keepAct_15 : decode cX6_keepAct 15 = .ok (.getfield 122, 3) := by decide +kernel
theorem dX6_keepAct_18 : decode cX6_keepAct 18 = .ok (.imul, 1) := by decide +kernel
theorem dX6_keepAct_19 : decode cX6_keepAct 19 = .ok (.iload_n 1, 1) := by decide +kernel
theorem dX6_keepAct_20 : decode cX6_keepAct 20 = .ok (.iadd, 1) := by decide +kernel
end
section
theorem dX6_keepAct_21 : decode cX6_keepAct 21 = .ok (.aload_n 0, 1) := by decide +kernel
theorem dX6_keepAct_22 : decode cX6_keepAct 22 = .ok (.getfield 16, 3) := by decide +kernel
theorem dX6_keepAct_25 : decode cX6_keepAct 25 = .ok (.iload_n 1, 1) := by decide +kernel
theorem dX6_keepAct_26 : decode cX6_keepAct 26 = .ok (.iaload, 1) := by decide +kernel
theorem dX6_keepAct_27 : decode cX6_keepAct 27 = .ok (.iastore, 1) := by decide +kernel
theorem dX6_keepAct_28 : decode cX6_keepAct 28 = .ok (.iinc 1 1, 3) := by decide +kernel
theorem dX6_keepAct_31 : decode cX6_keepAct 31 = .ok (.goto (-29), 3) := by decide +kernel
theorem dX6_keepAct_34 : decode cX6_keepAct 34 = .ok (.aload_n 0, 1) := by decide +kernel
theorem dX6_keepAct_35 : decode cX6_keepAct 35 = .ok (.aload_n 0, 1) := by decide +kernel
theorem dX6_keepAct_36 : decode cX6_keepAct 36 = .ok (.getfield 122, 3) := by decide +kernel
theorem dX6_keepAct_39 : decode cX6_keepAct 39 = .ok (.iconst 1, 1) := by decide +kernel
theorem dX6_keepAct_40 : decode cX6_keepAct 40 = .ok (.iadd, 1) := by decide +kernel
theorem dX6_keepAct_41 : decode cX6_keepAct 41 = .ok (.bipush 14, 2) := by decide +kernel
theorem dX6_keepAct_43 : decode cX6_keepAct 43 = .ok (.irem, 1) := by decide +kernel
theorem dX6_keepAct_44 : decode cX6_keepAct 44 = .ok (.putfield 122, 3) := by decide +kernel
theorem dX6_keepAct_47 : decode cX6_keepAct 47 = .ok (.aload_n 0, 1) := by decide +kernel
theorem dX6_keepAct_48 : decode cX6_keepAct 48 = .ok (.aload_n 0, 1) := by decide +kernel
theorem dX6_keepAct_49 : decode cX6_keepAct 49 = .ok (.getfield 99, 3) := by decide +kernel
theorem dX6_keepAct_52 : decode cX6_keepAct 52 = .ok (.bipush 14, 2) := by decide +kernel
theorem dX6_keepAct_54 : decode cX6_keepAct 54 = .ok (.if_icmp .ge 12, 3) := by decide +kernel
theorem dX6_keepAct_57 : decode cX6_keepAct 57 = .ok (.aload_n 0, 1) := by decide +kernel
theorem dX6_keepAct_58 : decode cX6_keepAct 58 = .ok (.getfield 99, 3) := by decide +kernel
theorem dX6_keepAct_61 : decode cX6_keepAct 61 = .ok (.iconst 1, 1) := by decide +kernel
theorem dX6_keepAct_62 : decode cX6_keepAct 62 = .ok (.iadd, 1) := by decide +kernel
theorem dX6_keepAct_63 : decode cX6_keepAct 63 = .ok (.goto 5, 3) := by decide +kernel
theorem dX6_keepAct_66 : decode cX6_keepAct 66 = .ok (.bipush 14, 2) := by decide +kernel
theorem dX6_keepAct_68 : decode cX6_keepAct 68 = .ok (.putfield 99, 3) := by decide +kernel
theorem dX6_keepAct_71 : decode cX6_keepAct 71 = .ok (.return_, 1) := by decide +kernel
set_option maxRecDepth 20000 in
theorem ggX6_hour_X6_keepAct : GoodIn wsX6_hour wsX6_keepAct := goodIn_r _ [5, 6, 7, 8, 9, 40, 41, 42, 43, 44, 45, 46, 47, 48, 49, 50, 51, 52, 53, 54, 55, 56, 57, 58, 59, 60, 61, 62, 63] (by decide +kernel) (by decide +kernel)
set_option maxRecDepth 20000 in
theorem gX6_hour_X6_keepAct : GoodIn wsX6_hour (wsV RX6 125 RX6 yX6_keepAct wsX6_keepAct) := goodIn_app (goodIn_of _ (by decide +kernel)) ggX6_hour_X6_keepAct
set_option maxRecDepth 20000 in
theorem ggX6_hour_X6_passOn : GoodIn wsX6_hour wsX6_passOn := goodIn_r _ [13, 8, 14, 15, 16, 17, 4, 18, 19, 20, 21, 22, 23, 24, 25, 26, 27, 28, 29, 30, 31, 32, 33, 34, 35, 36, 37, 38, 39, 40, 41, 42, 43, 44, 45, 46, 47, 48, 49, 50, 51, 52, 53, 54, 55, 56, 57, 58, 59, 60, 61, 62, 63] (by decide +kernel) (by decide +kernel)
set_option maxRecDepth 20000 in
theorem gX6_hour_X6_passOn : GoodIn wsX6_hour (wsV RX6 128 RX6 yX6_passOn wsX6_passOn) := goodIn_app (goodIn_of _ (by decide +kernel)) ggX6_hour_X6_passOn
theorem dX6_hour_0 : decode cX6_hour 0 = .ok (.aload_n 0, 1) := by decide +kernel
theorem dX6_hour_1 : decode cX6_hour 1 = .ok (.invokevirtual 125, 3) := by decide +kernel
theorem dX6_hour_4 : decode cX6_hour 4 = .ok (.aload_n 0, 1) := by decide +kernel
theorem dX6_hour_5 : decode cX6_hour 5 = .ok (.iconst 0, 1) := by decide +kernel
theorem dX6_hour_6 : decode cX6_hour 6 = .ok (.invokevirtual 128, 3) := by decide +kernel
theorem dX6_hour_9 : decode cX6_hour 9 = .ok (.ireturn, 1) := by decide +kernel
set_option maxRecDepth 20000 in
theorem ggX6_canArgue_X6_isThere : GoodIn wsX6_canArgue wsX6_isThere := goodIn_r _ [6, 1, 7, 8, 5, 9, 10, 11, 12, 13, 14, 15, 16, 17, 18, 19, 20, 21, 22, 23, 24, 25, 26, 27, 28, 29, 30, 31, 32, 33] (by decide +kernel) (by decide +kernel)
set_option maxRecDepth 20000 in
theorem gX6_canArgue_X6_isThere : GoodIn wsX6_canArgue (wsV RX6 108 RX6 yX6_isThere wsX6_isThere) := goodIn_app (goodIn_of _ (by decide +kernel)) ggX6_canArgue_X6_isThere
theorem dX6_canArgue_0 : decode cX6_canArgue 0 = .ok (.aload_n 0, 1) := by decide +kernel
theorem dX6_canArgue_1 : decode cX6_canArgue 1 = .ok (.iload_n 1, 1) := by decide +kernel
theorem dX6_canArgue_2 : decode cX6_canArgue 2 = .ok (.iload_n 2, 1) := by decide +kernel
theorem dX6_canArgue_3 : decode cX6_canArgue 3 = .ok (.invokevirtual 108, 3) := by decide +kernel
theorem dX6_canArgue_6 : decode cX6_canArgue 6 = .ok (.ifCond .eq 24, 3) := by decide +kernel
theorem dX6_canArgue_9 : decode cX6_canArgue 9 = .ok (.aload_n 0, 1) := by decide +kernel
theorem dX6_canArgue_10 : decode cX6_canArgue 10 = .ok (.getfield 16, 3) := by decide +kernel
theorem dX6_canArgue_13 : decode cX6_canArgue 13 = .ok (.bipush 15, 2) := by decide +kernel
theorem dX6_canArgue_15 : decode cX6_canArgue 15 = .ok (.iload_n 1, 1) := by decide +kernel
theorem dX6_canArgue_16 : decode cX6_canArgue 16 = .ok (.imul, 1) := by decide +kernel
theorem dX6_canArgue_17 : decode cX6_canArgue 17 = .ok (.iconst 3, 1) := by decide +kernel
theorem dX6_canArgue_18 : decode cX6_canArgue 18 = .ok (.iadd, 1) := by decide +kernel
theorem dX6_canArgue_19 : decode cX6_canArgue 19 = .ok (.iload_n 2, 1) := by decide +kernel
theorem dX6_canArgue_20 : decode cX6_canArgue 20 = .ok (.iadd, 1) := by decide +kernel
theorem dX6_canArgue_21 : decode cX6_canArgue 21 = .ok (.iaload, 1) := by decide +kernel
theorem dX6_canArgue_22 : decode cX6_canArgue 22 = .ok (.iconst 1, 1) := by decide +kernel
theorem dX6_canArgue_23 : decode cX6_canArgue 23 = .ok (.if_icmp .le 7, 3) := by decide +kernel
theorem dX6_canArgue_26 : decode cX6_canArgue 26 = .ok (.iconst 1, 1) := by decide +kernel
theorem dX6_canArgue_27 : decode cX6_canArgue 27 = .ok (.goto 4, 3) := by decide +kernel
theorem dX6_canArgue_30 : decode cX6_canArgue 30 = .ok (.iconst 0, 1) := by decide +kernel
theorem dX6_canArgue_31 : decode cX6_canArgue 31 = .ok (.ireturn, 1) := by decide +kernel
set_option maxRecDepth 20000 in
theorem ggX6_argue_X6_isJuror : GoodIn wsX6_argue wsX6_isJuror := goodIn_r _ [6, 7, 8, 9, 5, 10, 29, 30, 31, 32, 33, 34, 35, 36, 37, 38, 39, 40, 41, 42, 43, 44, 45, 46, 47, 48, 49, 50, 51, 52] (by decide +kernel) (by decide +kernel)
set_option maxRecDepth 20000 in
theorem gX6_argue_X6_isJuror : GoodIn wsX6_argue (wsV RX6 118 RX6 yX6_isJuror wsX6_isJuror) := goodIn_app (goodIn_of _ (by decide +kernel)) ggX6_argue_X6_isJuror
set_option maxRecDepth 20000 in
theorem ggX6_argue_X6_canArgue : GoodIn wsX6_argue wsX6_canArgue := goodIn_r _ [14, 1, 15, 16, 17, 5, 18, 19, 20, 21, 29, 30, 31, 32, 33, 34, 35, 36, 37, 38, 39, 40, 41, 42, 43, 44, 45, 46, 47, 48, 49, 50, 51, 52] (by decide +kernel) (by decide +kernel)
set_option maxRecDepth 20000 in
theorem gX6_argue_X6_canArgue : GoodIn wsX6_argue (wsV RX6 131 RX6 yX6_canArgue wsX6_canArgue) := goodIn_app (goodIn_of _ (by decide +kernel)) ggX6_argue_X6_canArgue
set_option maxRecDepth 20000 in
theorem ggX6_argue_X6_keepAct : GoodIn wsX6_argue wsX6_keepAct := goodIn_r _ [25, 26, 27, 1, 28, 29, 30, 31, 32, 33, 34, 35, 36, 37, 38, 39, 40, 41, 42, 43, 44, 45, 46, 47, 48, 49, 50, 51, 52] (by decide +kernel) (by decide +kernel)
set_option maxRecDepth 20000 in
theorem gX6_argue_X6_keepAct : GoodIn wsX6_argue (wsV RX6 125 RX6 yX6_keepAct wsX6_keepAct) := goodIn_app (goodIn_of _ (by decide +kernel)) ggX6_argue_X6_keepAct
theorem dX6_argue_0 : decode cX6_argue 0 = .ok (.aload_n 0, 1) := by decide +kernel
theorem dX6_argue_1 : decode cX6_argue 1 = .ok (.iload_n 1, 1) := by decide +kernel
theorem dX6_argue_2 : decode cX6_argue 2 = .ok (.invokevirtual 118, 3) := by decide +kernel
theorem dX6_argue_5 : decode cX6_argue 5 = .ok (.ifCond .ne 5, 3) := by decide +kernel
theorem dX6_argue_8 : decode cX6_argue 8 = .ok (.iconst (-1), 1) := by decide +kernel
theorem dX6_argue_9 : decode cX6_argue 9 = .ok (.ireturn, 1) := by decide +kernel
theorem dX6_argue_10 : decode cX6_argue 10 = .ok (.aload_n 0, 1) := by decide +kernel
theorem dX6_argue_11 : decode cX6_argue 11 = .ok (.iconst 0, 1) := by decide +kernel
theorem dX6_argue_12 : decode cX6_argue 12 = .ok (.iload_n 1, 1) := by decide +kernel
theorem dX6_argue_13 : decode cX6_argue 13 = .ok (.invokevirtual 131, 3) := by decide +kernel
theorem dX6_argue_16 : decode cX6_argue 16 = .ok (.ifCond .ne 6, 3) := by decide +kernel
theorem dX6_argue_19 : decode cX6_argue 19 = .ok (.bipush (-3), 2) := by decide +kernel
theorem dX6_argue_21 : decode cX6_argue 21 = .ok (.ireturn, 1) := by decide +kernel
theorem dX6_argue_22 : decode cX6_argue 22 = .ok (.aload_n 0, 1) := by decide +kernel
theorem dX6_argue_23 : decode cX6_argue 23 = .ok (.invokevirtual 125, 3) := by decide +kernel
theorem dX6_argue_26 : decode cX6_argue 26 = .ok (.aload_n 0, 1) := by decide +kernel
theorem dX6_argue_27 : decode cX6_argue 27 = .ok (.getfield 16, 3) := by decide +kernel
theorem dX6_argue_30 : decode cX6_argue 30 = .ok (.iconst 3, 1) := by decide +kernel
theorem dX6_argue_31 : decode cX6_argue 31 = .ok (.iload_n 1, 1) := by decide +kernel
theorem dX6_argue_32 : decode cX6_argue 32 = .ok (.iadd, 1) := by decide +kernel
theorem dX6_argue_33 : decode cX6_argue 33 = .ok (.dup2, 1) := by decide +kernel
theorem dX6_argue_34 : decode cX6_argue 34 = .ok (.iaload, 1) := by decide +kernel
theorem dX6_argue_35 : decode cX6_argue 35 = .ok (.iconst 1, 1) := by decide +kernel
theorem dX6_argue_36 : decode cX6_argue 36 = .ok (.isub, 1) := by decide +kernel
theorem dX6_argue_37 : decode cX6_argue 37 = .ok (.iastore, 1) := by decide +kernel
theorem dX6_argue_38 : decode cX6_argue 38 = .ok (.aload_n 0, 1) := by decide +kernel
theorem dX6_argue_39 : decode cX6_argue 39 = .ok (.getfield 16, 3) := by decide +kernel
theorem dX6_argue_42 : decode cX6_argue 42 = .ok (.iconst 3, 1) := by decide +kernel
theorem dX6_argue_43 : decode cX6_argue 43 = .ok (.iload_n 1, 1) := by decide +kernel
theorem dX6_argue_44 : decode cX6_argue 44 = .ok (.iadd, 1) := by decide +kernel
theorem dX6_argue_45 : decode cX6_argue 45 = .ok (.iaload, 1) := by decide +kernel
theorem dX6_argue_46 : decode cX6_argue 46 = .ok (.ireturn, 1) := by decide +kernel
set_option maxRecDepth 20000 in
theorem ggX6_canFeed_X6_isThere : GoodIn wsX6_canFeed wsX6_isThere := goodIn_r _ [6, 1, 7, 8, 5, 9, 10, 11, 12, 13, 14, 15, 16, 17, 18, 19, 20, 21, 22, 23, 24, 25, 26, 27, 28, 29, 30, 31, 32, 33] (by decide +kernel) (by decide +kernel)
set_option maxRecDepth 20000 in
theorem gX6_canFeed_X6_isThere : GoodIn wsX6_canFeed (wsV RX6 108 RX6 yX6_isThere wsX6_isThere) := goodIn_app (goodIn_of _ (by decide +kernel)) ggX6_canFeed_X6_isThere
theorem dX6_canFeed_0 : decode cX6_canFeed 0 = .ok (.aload_n 0, 1) := by decide +kernel
theorem dX6_canFeed_1 : decode cX6_canFeed 1 = .ok (.iload_n 1, 1) := by decide +kernel
theorem dX6_canFeed_2 : decode cX6_canFeed 2 = .ok (.iload_n 2, 1) := by decide +kernel
theorem dX6_canFeed_3 : decode cX6_canFeed 3 = .ok (.invokevirtual 108, 3) := by decide +kernel
theorem dX6_canFeed_6 : decode cX6_canFeed 6 = .ok (.ifCond .eq 24, 3) := by decide +kernel
theorem dX6_canFeed_9 : decode cX6_canFeed 9 = .ok (.aload_n 0, 1) := by decide +kernel
theorem dX6_canFeed_10 : decode cX6_canFeed 10 = .ok (.getfield 16, 3) := by decide +kernel
theorem dX6_canFeed_13 : decode cX6_canFeed 13 = .ok (.bipush 15, 2) := by decide +kernel
theorem dX6_canFeed_15 : decode cX6_canFeed 15 = .ok (.iload_n 1, 1) := by decide +kernel
theorem dX6_canFeed_16 : decode cX6_canFeed 16 = .ok (.imul, 1) := by decide +kernel
theorem dX6_canFeed_17 : decode cX6_canFeed 17 = .ok (.bipush 9, 2) := by decide +kernel
theorem dX6_canFeed_19 : decode cX6_canFeed 19 = .ok (.iadd, 1) := by decide +kernel
theorem dX6_canFeed_20 : decode cX6_canFeed 20 = .ok (.iload_n 2, 1) := by decide +kernel
theorem dX6_canFeed_21 : decode cX6_canFeed 21 = .ok (.iadd, 1) := by decide +kernel
theorem dX6_canFeed_22 : decode cX6_canFeed 22 = .ok (.iaload, 1) := by decide +kernel
theorem dX6_canFeed_23 : decode cX6_canFeed 23 = .ok (.ifCond .le 7, 3) := by decide +kernel
theorem dX6_canFeed_26 : decode cX6_canFeed 26 = .ok (.iconst 1, 1) := by decide +kernel
theorem dX6_canFeed_27 : decode cX6_canFeed 27 = .ok (.goto 4, 3) := by decide +kernel
theorem dX6_canFeed_30 : decode cX6_canFeed 30 = .ok (.iconst 0, 1) := by decide +kernel
theorem dX6_canFeed_31 : decode cX6_canFeed 31 = .ok (.ireturn, 1) := by decide +kernel
set_option maxRecDepth 20000 in
theorem ggX6_feed_X6_isJuror : GoodIn wsX6_feed wsX6_isJuror := goodIn_r _ [6, 7, 8, 9, 5, 10, 29, 30, 31, 32, 33, 34, 35, 36, 37, 38, 39, 40, 41, 42, 43, 44, 45, 46, 47, 48, 49, 50, 51, 52] (by decide +kernel) (by decide +kernel)
set_option maxRecDepth 20000 in
theorem gX6_feed_X6_isJuror : GoodIn wsX6_feed (wsV RX6 118 RX6 yX6_isJuror wsX6_isJuror) := goodIn_app (goodIn_of _ (by decide +kernel)) ggX6_feed_X6_isJuror
set_option maxRecDepth 20000 in
theorem ggX6_feed_X6_canFeed : GoodIn wsX6_feed wsX6_canFeed := goodIn_r _ [14, 1, 15, 16, 17, 5, 18, 19, 20, 21, 29, 30, 31, 32, 33, 34, 35, 36, 37, 38, 39, 40, 41, 42, 43, 44, 45, 46, 47, 48, 49, 50, 51, 52] (by decide +kernel) (by decide +kernel)
set_option maxRecDepth 20000 in
theorem gX6_feed_X6_canFeed : GoodIn wsX6_feed (wsV RX6 134 RX6 yX6_canFeed wsX6_canFeed) := goodIn_app (goodIn_of _ (by decide +kernel)) ggX6_feed_X6_canFeed
set_option maxRecDepth 20000 in
theorem ggX6_feed_X6_keepAct : GoodIn wsX6_feed wsX6_keepAct := goodIn_r _ [25, 26, 27, 1, 28, 29, 30, 31, 32, 33, 34, 35, 36, 37, 38, 39, 40, 41, 42, 43, 44, 45, 46, 47, 48, 49, 50, 51, 52] (by decide +kernel) (by decide +kernel)
set_option maxRecDepth 20000 in
theorem gX6_feed_X6_keepAct : GoodIn wsX6_feed (wsV RX6 125 RX6 yX6_keepAct wsX6_keepAct) := goodIn_app (goodIn_of _ (by decide +kernel)) ggX6_feed_X6_keepAct
theorem dX6_feed_0 : decode cX6_feed 0 = .ok (.aload_n 0, 1) := by decide +kernel
theorem dX6_feed_1 : decode cX6_feed 1 = .ok (.iload_n 1, 1) := by decide +kernel
theorem dX6_feed_2 : decode cX6_feed 2 = .ok (.invokevirtual 118, 3) := by decide +kernel
theorem dX6_feed_5 : decode cX6_feed 5 = .ok (.ifCond .ne 5, 3) := by decide +kernel
theorem dX6_feed_8 : decode cX6_feed 8 = .ok (.iconst (-1), 1) := by decide +kernel
theorem dX6_feed_9 : decode cX6_feed 9 = .ok (.ireturn, 1) := by decide +kernel
theorem dX6_feed_10 : decode cX6_feed 10 = .ok (.aload_n 0, 1) := by decide +kernel
theorem dX6_feed_11 : decode cX6_feed 11 = .ok (.iconst 0, 1) := by decide +kernel
theorem dX6_feed_12 : decode cX6_feed 12 = .ok (.iload_n 1, 1) := by decide +kernel
theorem dX6_feed_13 : decode cX6_feed 13 = .ok (.invokevirtual 134, 3) := by decide +kernel
theorem dX6_feed_16 : decode cX6_feed 16 = .ok (.ifCond .ne 6, 3) := by decide +kernel
theorem dX6_feed_19 : decode cX6_feed 19 = .ok (.bipush (-3), 2) := by decide +kernel
theorem dX6_feed_21 : decode cX6_feed 21 = .ok (.ireturn, 1) := by decide +kernel
theorem dX6_feed_22 : decode cX6_feed 22 = .ok (.aload_n 0, 1) := by decide +kernel
theorem dX6_feed_23 : decode cX6_feed 23 = .ok (.invokevirtual 125, 3) := by decide +kernel
theorem dX6_feed_26 : decode cX6_feed 26 = .ok (.aload_n 0, 1) := by decide +kernel
theorem dX6_feed_27 : decode cX6_feed 27 = .ok (.getfield 16, 3) := by decide +kernel
theorem dX6_feed_30 : decode cX6_feed 30 = .ok (.bipush 9, 2) := by decide +kernel
theorem dX6_feed_32 : decode cX6_feed 32 = .ok (.iload_n 1, 1) := by decide +kernel
theorem dX6_feed_33 : decode cX6_feed 33 = .ok (.iadd, 1) := by decide +kernel
theorem dX6_feed_34 : decode cX6_feed 34 = .ok (.iaload, 1) := by decide +kernel
theorem dX6_feed_35 : decode cX6_feed 35 = .ok (.istore_n 2, 1) := by decide +kernel
theorem dX6_feed_36 : decode cX6_feed 36 = .ok (.aload_n 0, 1) := by decide +kernel
theorem dX6_feed_37 : decode cX6_feed 37 = .ok (.getfield 16, 3) := by decide +kernel
theorem dX6_feed_40 : decode cX6_feed 40 = .ok (.bipush 9, 2) := by decide +kernel
theorem dX6_feed_42 : decode cX6_feed 42 = .ok (.iload_n 1, 1) := by decide +kernel
theorem dX6_feed_43 : decode cX6_feed 43 = .ok (.iadd, 1) := by decide +kernel
theorem dX6_feed_44 : decode cX6_feed 44 = .ok (.iconst 0, 1) := by decide +kernel
theorem dX6_feed_45 : decode cX6_feed 45 = .ok (.iastore, 1) := by decide +kernel
theorem dX6_feed_46 : decode cX6_feed 46 = .ok (.iload_n 2, 1) := by decide +kernel
theorem dX6_feed_47 : decode cX6_feed 47 = .ok (.ireturn, 1) := by decide +kernel
theorem dX6_dieOn_0 : decode cX6_dieOn 0 = .ok (.aload_n 0, 1) := by decide +kernel
theorem dX6_dieOn_1 : decode cX6_dieOn 1 = .ok (.getfield 16, 3) := by decide +kernel
theorem dX6_dieOn_4 : decode cX6_dieOn 4 = .ok (.bipush 15, 2) := by decide +kernel
theorem dX6_dieOn_6 : decode cX6_dieOn 6 = .ok (.iload_n 1, 1) := by decide +kernel
theorem dX6_dieOn_7 : decode cX6_dieOn 7 = .ok (.imul, 1) := by decide +kernel
theorem dX6_dieOn_8 : decode cX6_dieOn 8 = .ok (.iconst 1, 1) := by decide +kernel
theorem dX6_dieOn_9 : decode cX6_dieOn 9 = .ok (.iadd, 1) := by decide +kernel
theorem dX6_dieOn_10 : decode cX6_dieOn 10 = .ok (.dup2, 1) := by decide +kernel
theorem dX6_dieOn_11 : decode cX6_dieOn 11 = .ok (.iaload, 1) := by decide +kernel
theorem dX6_dieOn_12 : decode cX6_dieOn 12 = .ok (.iconst 1, 1) := by decide +kernel
theorem dX6_dieOn_13 : decode cX6_dieOn 13 = .ok (.iload_n 2, 1) := by decide +kernel
theorem dX6_dieOn_14 : decode cX6_dieOn 14 = .ok (.ishl, 1) := by decide +kernel
theorem dX6_dieOn_15 : decode cX6_dieOn 15 = .ok (.iconst (-1), 1) := by decide +kernel
theorem dX6_dieOn_16 : decode cX6_dieOn 16 = .ok (.ixor, 1) := by decide +kernel
theorem dX6_dieOn_17 : decode cX6_dieOn 17 = .ok (.iand, 1) := by decide +kernel
theorem dX6_dieOn_18 : decode cX6_dieOn 18 = .ok (.iastore, 1) := by decide +kernel
theorem dX6_dieOn_19 : decode cX6_dieOn 19 = .ok (.aload_n 0, 1) := by decide +kernel
theorem dX6_dieOn_20 : decode cX6_dieOn 20 = .ok (.getfield 16, 3) := by decide +kernel
theorem dX6_dieOn_23 : decode cX6_dieOn 23 = .ok (.bipush 15, 2) := by decide +kernel
theorem dX6_dieOn_25 : decode cX6_dieOn 25 = .ok (.iload_n 1, 1) := by decide +kernel
theorem dX6_dieOn_26 : decode cX6_dieOn 26 = .ok (.imul, 1) := by decide +kernel
theorem dX6_dieOn_27 : decode cX6_dieOn 27 = .ok (.iconst 2, 1) := by decide +kernel
theorem dX6_dieOn_28 : decode cX6_dieOn 28 = .ok (.iadd, 1) := by decide +kernel
theorem dX6_dieOn_29 : decode cX6_dieOn 29 = .ok (.iconst 0, 1) := by decide +kernel
theorem dX6_dieOn_30 : decode cX6_dieOn 30 = .ok (.iastore, 1) := by decide +kernel
theorem dX6_dieOn_31 : decode cX6_dieOn 31 = .ok (.return_, 1) := by decide +kernel
set_option maxRecDepth 20000 in
theorem ggX6_die_X6_isJuror : GoodIn wsX6_die wsX6_isJuror := goodIn_r _ [6, 7, 8, 9, 5, 10, 32, 33, 34, 35, 36, 37, 38, 39, 40, 41, 42, 43, 44, 45, 46, 47, 48, 49, 50, 51, 52, 53, 54, 55] (by decide +kernel) (by decide +kernel)
set_option maxRecDepth 20000 in
theorem gX6_die_X6_isJuror : GoodIn wsX6_die (wsV RX6 118 RX6 yX6_isJuror wsX6_isJuror) := goodIn_app (goodIn_of _ (by decide +kernel)) ggX6_die_X6_isJuror
set_option maxRecDepth 20000 in
theorem ggX6_die_X6_isThere : GoodIn wsX6_die wsX6_isThere := goodIn_r _ [14, 1, 15, 16, 5, 17, 32, 33, 34, 35, 36, 37, 38, 39, 40, 41, 42, 43, 44, 45, 46, 47, 48, 49, 50, 51, 52, 53, 54, 55] (by decide +kernel) (by decide +kernel)
set_option maxRecDepth 20000 in
theorem gX6_die_X6_isThere : GoodIn wsX6_die (wsV RX6 108 RX6 yX6_isThere wsX6_isThere) := goodIn_app (goodIn_of _ (by decide +kernel)) ggX6_die_X6_isThere
set_option maxRecDepth 20000 in
theorem ggX6_die_X6_keepAct : GoodIn wsX6_die wsX6_keepAct := goodIn_r _ [21, 22, 23, 1, 24, 32, 33, 34, 35, 36, 37, 38, 39, 40, 41, 42, 43, 44, 45, 46, 47, 48, 49, 50, 51, 52, 53, 54, 55] (by decide +kernel) (by decide +kernel)
set_option maxRecDepth 20000 in
theorem gX6_die_X6_keepAct : GoodIn wsX6_die (wsV RX6 125 RX6 yX6_keepAct wsX6_keepAct) := goodIn_app (goodIn_of _ (by decide +kernel)) ggX6_die_X6_keepAct
set_option maxRecDepth 20000 in
theorem ggX6_die_X6_dieOn : GoodIn wsX6_die wsX6_dieOn := goodIn_r _ [28, 1, 32, 33, 34, 35, 36, 37, 38, 39, 40, 41, 42, 43, 44, 45, 46, 47, 48, 49, 50, 51, 52, 53, 54, 55] (by decide +kernel) (by decide +kernel)
set_option maxRecDepth 20000 in
theorem gX6_die_X6_dieOn : GoodIn wsX6_die (wsV RX6 137 RX6 yX6_dieOn wsX6_dieOn) := goodIn_app (goodIn_of _ (by decide +kernel)) ggX6_die_X6_dieOn
set_option maxRecDepth 20000 in
theorem ggX6_die_X6_ones : GoodIn wsX6_die wsX6_ones := goodIn_r _ [31] (by decide +kernel) (by decide +kernel)
set_option maxRecDepth 20000 in
theorem gX6_die_X6_ones : GoodIn wsX6_die (va_wsS RX6 102 yX6_ones wsX6_ones) := goodIn_app (goodIn_of _ (by decide +kernel)) ggX6_die_X6_ones
theorem dX6_die_0 : decode cX6_die 0 = .ok (.aload_n 0, 1) := by decide +kernel
theorem dX6_die_1 : decode cX6_die 1 = .ok (.iload_n 1, 1) := by decide +kernel
theorem dX6_die_2 : decode cX6_die 2 = .ok (.invokevirtual 118, 3) := by decide +kernel
theorem dX6_die_5 : decode cX6_die 5 = .ok (.ifCond .ne 5, 3) := by decide +kernel
theorem dX6_die_8 : decode cX6_die 8 = .ok (.iconst (-1), 1) := by decide +kernel
theorem dX6_die_9 : decode cX6_die 9 = .ok (.ireturn, 1) := by decide +kernel
theorem dX6_die_10 : decode cX6_die 10 = .ok (.aload_n 0, 1) := by decide +kernel
theorem dX6_die_11 : decode cX6_die 11 = .ok (.iconst 0, 1) := by decide +kernel
theorem dX6_die_12 : decode cX6_die 12 = .ok (.iload_n 1, 1) := by decide +kernel
theorem dX6_die_13 : decode cX6_die 13 = .ok (.invokevirtual 108, 3) := by decide +kernel
theorem dX6_die_16 : decode cX6_die 16 = .ok (.ifCond .ne 6, 3) := by decide +kernel
theorem dX6_die_19 : decode cX6_die 19 = .ok (.bipush (-3), 2) := by decide +kernel
theorem dX6_die_21 : decode cX6_die 21 = .ok (.ireturn, 1) := by decide +kernel
theorem dX6_die_22 : decode cX6_die 22 = .ok (.aload_n 0, 1) := by decide +kernel
theorem dX6_die_23 : decode cX6_die 23 = .ok (.invokevirtual 125, 3) := by decide +kernel
theorem dX6_die_26 : decode cX6_die 26 = .ok (.aload_n 0, 1) := by decide +kernel
theorem dX6_die_27 : decode cX6_die 27 = .ok (.iconst 0, 1) := by decide +kernel
theorem dX6_die_28 : decode cX6_die 28 = .ok (.iload_n 1, 1) := by decide +kernel
theorem dX6_die_29 : decode cX6_die 29 = .ok (.invokevirtual 137, 3) := by decide +kernel
theorem dX6_die_32 : decode cX6_die 32 = .ok (.aload_n 0, 1) := by decide +kernel
theorem dX6_die_33 : decode cX6_die 33 = .ok (.getfield 16, 3) := by decide +kernel
theorem dX6_die_36 : decode cX6_die 36 = .ok (.iconst 1, 1) := by decide +kernel
theorem dX6_die_37 : decode cX6_die 37 = .ok (.iaload, 1) := by decide +kernel
theorem dX6_die_38 : decode cX6_die 38 = .ok (.invokestatic 102, 3) := by decide +kernel
theorem dX6_die_41 : decode cX6_die 41 = .ok (.ireturn, 1) := by decide +kernel
set_option maxRecDepth 20000 in
theorem ggX6_toss_X6_isJuror : GoodIn wsX6_toss wsX6_isJuror := goodIn_r _ [6, 7, 8, 9, 5, 10, 25, 26, 27, 28, 29, 30, 31, 32, 33, 34, 35, 36, 37, 38, 39, 40, 41, 42, 43, 44, 45, 46, 47, 48] (by decide +kernel) (by decide +kernel)
set_option maxRecDepth 20000 in
theorem gX6_toss_X6_isJuror : GoodIn wsX6_toss (wsV RX6 118 RX6 yX6_isJuror wsX6_isJuror) := goodIn_app (goodIn_of _ (by decide +kernel)) ggX6_toss_X6_isJuror
set_option maxRecDepth 20000 in
theorem ggX6_toss_X6_isThere : GoodIn wsX6_toss wsX6_isThere := goodIn_r _ [14, 1, 15, 16, 5, 17, 25, 26, 27, 28, 29, 30, 31, 32, 33, 34, 35, 36, 37, 38, 39, 40, 41, 42, 43, 44, 45, 46, 47, 48] (by decide +kernel) (by decide +kernel)
set_option maxRecDepth 20000 in
theorem gX6_toss_X6_isThere : GoodIn wsX6_toss (wsV RX6 108 RX6 yX6_isThere wsX6_isThere) := goodIn_app (goodIn_of _ (by decide +kernel)) ggX6_toss_X6_isThere
set_option maxRecDepth 20000 in
theorem ggX6_toss_X6_keepAct : GoodIn wsX6_toss wsX6_keepAct := goodIn_r _ [21, 22, 23, 1, 24, 25, 26, 27, 28, 29, 30, 31, 32, 33, 34, 35, 36, 37, 38, 39, 40, 41, 42, 43, 44, 45, 46, 47, 48] (by decide +kernel) (by decide +kernel)
set_option maxRecDepth 20000 in
theorem gX6_toss_X6_keepAct : GoodIn wsX6_toss (wsV RX6 125 RX6 yX6_keepAct wsX6_keepAct) := goodIn_app (goodIn_of _ (by decide +kernel)) ggX6_toss_X6_keepAct
theorem dX6_toss_0 : decode cX6_toss 0 = .ok (.aload_n 0, 1) := by decide +kernel
theorem dX6_toss_1 : decode cX6_toss 1 = .ok (.iload_n 1, 1) := by decide +kernel
theorem dX6_toss_2 : decode cX6_toss 2 = .ok (.invokevirtual 118, 3) := by decide +kernel
theorem dX6_toss_5 : decode cX6_toss 5 = .ok (.ifCond .ne 5, 3) := by decide +kernel
theorem dX6_toss_8 : decode cX6_toss 8 = .ok (.iconst (-1), 1) := by decide +kernel
theorem dX6_toss_9 : decode cX6_toss 9 = .ok (.ireturn, 1) := by decide +kernel
theorem dX6_toss_10 : decode cX6_toss 10 = .ok (.aload_n 0, 1) := by decide +kernel
theorem dX6_toss_11 : decode cX6_toss 11 = .ok (.iconst 0, 1) := by decide +kernel
theorem dX6_toss_12 : decode cX6_toss 12 = .ok (.iload_n 1, 1) := by decide +kernel
theorem dX6_toss_13 : decode cX6_toss 13 = .ok (.invokevirtual 108, 3) := by decide +kernel
theorem dX6_toss_16 : decode cX6_toss 16 = .ok (.ifCond .ne 6, 3) := by decide +kernel
theorem dX6_toss_19 : decode cX6_toss 19 = .ok (.bipush (-3), 2) := by decide +kernel
theorem dX6_toss_21 : decode cX6_toss 21 = .ok (.ireturn, 1) := by decide +kernel
theorem dX6_toss_22 : decode cX6_toss 22 = .ok (.aload_n 0, 1) := by decide +kernel
theorem dX6_toss_23 : decode cX6_toss 23 = .ok (.invokevirtual 125, 3) := by decide +kernel
theorem dX6_toss_26 : decode cX6_toss 26 = .ok (.aload_n 0, 1) := by decide +kernel
theorem dX6_toss_27 : decode cX6_toss 27 = .ok (.getfield 16, 3) := by decide +kernel
theorem dX6_toss_30 : decode cX6_toss 30 = .ok (.iconst 0, 1) := by decide +kernel
theorem dX6_toss_31 : decode cX6_toss 31 = .ok (.dup2, 1) := by decide +kernel
theorem dX6_toss_32 : decode cX6_toss 32 = .ok (.iaload, 1) := by decide +kernel
theorem dX6_toss_33 : decode cX6_toss 33 = .ok (.iconst 1, 1) := by decide +kernel
theorem dX6_toss_34 : decode cX6_toss 34 = .ok (.iload_n 1, 1) := by decide +kernel
theorem dX6_toss_35 : decode cX6_toss 35 = .ok (.ishl, 1) := by decide +kernel
theorem dX6_toss_36 : decode cX6_toss 36 = .ok (.ixor, 1) := by decide +kernel
theorem dX6_toss_37 : decode cX6_toss 37 = .ok (.iastore, 1) := by decide +kernel
theorem dX6_toss_38 : decode cX6_toss 38 = .ok (.aload_n 0, 1) := by decide +kernel
theorem dX6_toss_39 : decode cX6_toss 39 = .ok (.getfield 16, 3) := by decide +kernel
theorem dX6_toss_42 : decode cX6_toss 42 = .ok (.iconst 0, 1) := by decide +kernel
theorem dX6_toss_43 : decode cX6_toss 43 = .ok (.iaload, 1) := by decide +kernel
theorem dX6_toss_44 : decode cX6_toss 44 = .ok (.iload_n 1, 1) := by decide +kernel
theorem dX6_toss_45 : decode cX6_toss 45 = .ok (.ishr, 1) := by decide +kernel
theorem dX6_toss_46 : decode cX6_toss 46 = .ok (.iconst 1, 1) := by decide +kernel
theorem dX6_toss_47 : decode cX6_toss 47 = .ok (.iand, 1) := by decide +kernel
theorem dX6_toss_48 : decode cX6_toss 48 = .ok (.ireturn, 1) := by decide +kernel
theorem dX6_undo_0 : decode cX6_undo 0 = .ok (.aload_n 0, 1) := by decide +kernel
theorem dX6_undo_1 : decode cX6_undo 1 = .ok (.getfield 99, 3) := by decide +kernel
theorem dX6_undo_4 : decode cX6_undo 4 = .ok (.ifCond .ne 6, 3) := by decide +kernel
theorem dX6_undo_7 : decode cX6_undo 7 = .ok (.bipush (-3), 2) := by decide +kernel
theorem dX6_undo_9 : decode cX6_undo 9 = .ok (.ireturn, 1) := by decide +kernel
theorem dX6_undo_10 : decode cX6_undo 10 = .ok (.aload_n 0, 1) := by decide +kernel
theorem dX6_undo_11 : decode cX6_undo 11 = .ok (.dup, 1) := by decide +kernel
theorem dX6_undo_12 : decode cX6_undo 12 = .ok (.getfield 99, 3) := by decide +kernel
theorem dX6_undo_15 : decode cX6_undo 15 = .ok (.iconst 1, 1) := by decide +kernel
theorem dX6_undo_16 : decode cX6_undo 16 = .ok (.isub, 1) := by decide +kernel
theorem dX6_undo_17 : decode cX6_undo 17 = .ok (.putfield 99, 3) := by decide +kernel
theorem dX6_undo_20 : decode cX6_undo 20 = .ok (.aload_n 0, 1) := by decide +kernel
theorem dX6_undo_21 : decode cX6_undo 21 = .ok (.aload_n 0, 1) := by decide +kernel
theorem dX6_undo_22 : decode cX6_undo 22 = .ok (.getfield 122, 3) := by decide +kernel
theorem dX6_undo_25 : decode cX6_undo 25 = .ok (.bipush 13, 2) := by decide +kernel
theorem dX6_undo_27 : decode cX6_undo 27 = .ok (.iadd, 1) := by decide +kernel
theorem dX6_undo_28 : decode cX6_undo 28 = .ok (.bipush 14, 2) := by decide +kernel
theorem dX6_undo_30 : decode cX6_undo 30 = .ok (.irem, 1) := by decide +kernel
theorem dX6_undo_31 : decode cX6_undo 31 = .ok (.putfield 122, 3) := by decide +kernel
theorem dX6_undo_34 : decode cX6_undo 34 = .ok (.iconst 0, 1) := by decide +kernel
theorem dX6_undo_35 : decode cX6_undo 35 = .ok (.istore_n 1, 1) := by decide +kernel
theorem dX6_undo_36 : decode cX6_undo 36 = .ok (.iload_n 1, 1) := by decide +kernel
theorem dX6_undo_37 : decode cX6_undo 37 = .ok (.bipush 15, 2) := by decide +kernel
theorem dX6_undo_39 : decode cX6_undo 39 = .ok (.if_icmp .ge 29, 3) := by decide +kernel
theorem dX6_undo_42 : decode cX6_undo 42 = .ok (.aload_n 0, 1) := by decide +kernel
theorem dX6_undo_43 : decode cX6_undo 43 = .ok (.getfield 16, 3) := by decide +kernel
theorem dX6_undo_46 : decode cX6_undo 46 = .ok (.iload_n 1, 1) := by decide +kernel
theorem dX6_undo_47 : decode cX6_undo 47 = .ok (.aload_n 0, 1) := by decide +kernel
theorem dX6_undo_48 : decode cX6_undo 48 = .ok (.getfield 28, 3) := by decide +kernel
theorem dX6_undo_51 : decode cX6_undo 51 = .ok (.bipush 15, 2) := by decide +kernel
theorem dX6_undo_53 : decode cX6_undo 53 = .ok (.aload_n 0, 1) := by decide +kernel
theorem dX6_undo_54 : decode cX6_undo 54 = .ok (.getfield 122, 3) := by decide +kernel
theorem dX6_undo_57 : decode cX6_undo 57 = .ok (.imul, 1) := by decide +kernel
theorem dX6_undo_58 : decode cX6_undo 58 = .ok (.iload_n 1, 1) := by decide +kernel
theorem dX6_undo_59 : decode cX6_undo 59 = .ok (.iadd, 1) := by decide +kernel
theorem dX6_undo_60 : decode cX6_undo 60 = .ok (.iaload, 1) := by decide +kernel
theorem dX6_undo_61 : decode cX6_undo 61 = .ok (.iastore, 1) := by decide +kernel
theorem dX6_undo_62 : decode cX6_undo 62 = .ok (.iinc 1 1, 3) := by decide +kernel
theorem dX6_undo_65 : decode cX6_undo 65 = .ok (.goto (-29), 3) := by decide +kernel
theorem dX6_undo_68 : decode cX6_undo 68 = .ok (.aload_n 0, 1) := by decide +kernel
theorem dX6_undo_69 : decode cX6_undo 69 = .ok (.getfield 99, 3) := by decide +kernel
theorem dX6_undo_72 : decode cX6_undo 72 = .ok (.ireturn, 1) := by decide +kernel
theorem dX6_layTrial_0 : decode cX6_layTrial 0 = .ok (.iconst 0, 1) := by decide +kernel
theorem dX6_layTrial_1 : decode cX6_layTrial 1 = .ok (.istore_n 1, 1) := by decide +kernel
theorem dX6_layTrial_2 : decode cX6_layTrial 2 = .ok (.iload_n 1, 1) := by decide +kernel
theorem dX6_layTrial_3 : decode cX6_layTrial 3 = .ok (.bipush 15, 2) := by decide +kernel
theorem dX6_layTrial_5 : decode cX6_layTrial 5 = .ok (.if_icmp .ge 24, 3) := by decide +kernel
theorem dX6_layTrial_8 : decode cX6_layTrial 8 = .ok (.aload_n 0, 1) := by decide +kernel
theorem dX6_layTrial_9 : decode cX6_layTrial 9 = .ok (.getfield 16, 3) := by decide +kernel
theorem dX6_layTrial_12 : decode cX6_layTrial 12 = .ok (.bipush 15, 2) := by decide +kernel
theorem dX6_layTrial_14 : decode cX6_layTrial 14 = .ok (.iload_n 1, 1) := by decide +kernel
theorem dX6_layTrial_15 : decode cX6_layTrial 15 = .ok (.iadd, 1) := by decide +kernel
theorem dX6_layTrial_16 : decode cX6_layTrial 16 = .ok (.aload_n 0, 1) := by decide +kernel
theorem dX6_layTrial_17 : decode cX6_layTrial 17 = .ok (.getfield 16, 3) := by decide +kernel
theorem dX6_layTrial_20 : decode cX6_layTrial 20 = .ok (.iload_n 1, 1) := by decide +kernel
theorem dX6_layTrial_21 : decode cX6_layTrial 21 = .ok (.iaload, 1) := by decide +kernel
theorem dX6_layTrial_22 : decode cX6_layTrial 22 = .ok (.iastore, 1) := by decide +kernel
theorem dX6_layTrial_23 : decode cX6_layTrial 23 = .ok (.iinc 1 1, 3) := by decide +kernel
theorem dX6_layTrial_26 : decode cX6_layTrial 26 = .ok (.goto (-24), 3) := by decide +kernel
theorem dX6_layTrial_29 : decode cX6_layTrial 29 = .ok (.return_, 1) := by decide +kernel
set_option maxRecDepth 20000 in
theorem ggX6_ahead_X6_in : GoodIn wsX6_ahead wsX6_in := goodIn_r _ [6] (by decide +kernel) (by decide +kernel)
set_option maxRecDepth 20000 in
theorem gX6_ahead_X6_in : GoodIn wsX6_ahead (va_wsS RX6 53 yX6_in wsX6_in) := goodIn_app (goodIn_of _ (by decide +kernel)) ggX6_ahead_X6_in
set_option maxRecDepth 20000 in
theorem ggX6_ahead_X6_layTrial : GoodIn wsX6_ahead wsX6_layTrial := goodIn_r _ [10, 2, 41, 42, 43, 44, 45, 46, 47, 48, 49, 50, 51, 52, 53, 54, 55, 56, 57, 58, 59, 60, 61, 62, 63, 64] (by decide +kernel) (by decide +kernel)
set_option maxRecDepth 20000 in
theorem gX6_ahead_X6_layTrial : GoodIn wsX6_ahead (wsV RX6 140 RX6 yX6_layTrial wsX6_layTrial) := goodIn_app (goodIn_of _ (by decide +kernel)) ggX6_ahead_X6_layTrial
set_option maxRecDepth 20000 in
theorem ggX6_ahead_X6_passOn : GoodIn wsX6_ahead wsX6_passOn := goodIn_r _ [14, 2, 15, 16, 17, 18, 5, 19, 20, 21, 22, 23, 24, 25, 26, 27, 28, 29, 30, 31, 32, 33, 34, 35, 36, 37, 38, 39, 40, 41, 42, 43, 44, 45, 46, 47, 48, 49, 50, 51, 52, 53, 54, 55, 56, 57, 58, 59, 60, 61, 62, 63, 64] (by decide +kernel) (by decide +kernel)
set_option maxRecDepth 20000 in
theorem gX6_ahead_X6_passOn : GoodIn wsX6_ahead (wsV RX6 128 RX6 yX6_passOn wsX6_passOn) := goodIn_app (goodIn_of _ (by decide +kernel)) ggX6_ahead_X6_passOn
theorem dX6_ahead_0 : decode cX6_ahead 0 = .ok (.iload_n 1, 1) := by decide +kernel
theorem dX6_ahead_1 : decode cX6_ahead 1 = .ok (.i2l, 1) := by decide +kernel
theorem dX6_ahead_2 : decode cX6_ahead 2 = .ok (.lconst 0, 1) := by decide +kernel
theorem dX6_ahead_3 : decode cX6_ahead 3 = .ok (.ldc2_w 66, 3) := by decide +kernel
theorem dX6_ahead_6 : decode cX6_ahead 6 = .ok (.invokestatic 53, 3) := by decide +kernel
theorem dX6_ahead_9 : decode cX6_ahead 9 = .ok (.ifCond .ne 6, 3) := by decide +kernel
theorem dX6_ahead_12 : decode cX6_ahead 12 = .ok (.bipush (-2), 2) := by decide +kernel
theorem dX6_ahead_14 : decode cX6_ahead 14 = .ok (.ireturn, 1) := by decide +kernel
theorem dX6_ahead_15 : decode cX6_ahead 15 = .ok (.aload_n 0, 1) := by decide +kernel
theorem dX6_ahead_16 : decode cX6_ahead 16 = .ok (.invokevirtual 140, 3) := by decide +kernel
theorem dX6_ahead_19 : decode cX6_ahead 19 = .ok (.iconst 0, 1) := by decide +kernel
theorem dX6_ahead_20 : decode cX6_ahead 20 = .ok (.istore_n 2, 1) := by decide +kernel
theorem dX6_ahead_21 : decode cX6_ahead 21 = .ok (.iload_n 2, 1) := by decide +kernel
theorem dX6_ahead_22 : decode cX6_ahead 22 = .ok (.iload_n 1, 1) := by decide +kernel
theorem dX6_ahead_23 : decode cX6_ahead 23 = .ok (.if_icmp .ge 15, 3) := by decide +kernel
theorem dX6_ahead_26 : decode cX6_ahead 26 = .ok (.aload_n 0, 1) := by decide +kernel
theorem dX6_ahead_27 : decode cX6_ahead 27 = .ok (.iconst 1, 1) := by decide +kernel
theorem dX6_ahead_28 : decode cX6_ahead 28 = .ok (.invokevirtual 128, 3) := by decide +kernel
theorem dX6_ahead_31 : decode cX6_ahead 31 = .ok (.pop, 1) := by decide +kernel
theorem dX6_ahead_32 : decode cX6_ahead 32 = .ok (.iinc 2 1, 3) := by decide +kernel
theorem dX6_ahead_35 : decode cX6_ahead 35 = .ok (.goto (-14), 3) := by decide +kernel
theorem dX6_ahead_38 : decode cX6_ahead 38 = .ok (.aload_n 0, 1) := by decide +kernel
theorem dX6_ahead_39 : decode cX6_ahead 39 = .ok (.getfield 16, 3) := by decide +kernel
theorem dX6_ahead_42 : decode cX6_ahead 42 = .ok (.bipush 15, 2) := by decide +kernel
theorem dX6_ahead_44 : decode cX6_ahead 44 = .ok (.iaload, 1) := by decide +kernel
theorem dX6_ahead_45 : decode cX6_ahead 45 = .ok (.aload_n 0, 1) := by decide +kernel
theorem dX6_ahead_46 : decode cX6_ahead 46 = .ok (.getfield 16, 3) := by decide +kernel
theorem dX6_ahead_49 : decode cX6_ahead 49 = .ok (.bipush 16, 2) := by decide +kernel
theorem dX6_ahead_51 : decode cX6_ahead 51 = .ok (.iaload, 1) := by decide +kernel
theorem dX6_ahead_52 : decode cX6_ahead 52 = .ok (.iand, 1) := by decide +kernel
theorem dX6_ahead_53 : decode cX6_ahead 53 = .ok (.ireturn, 1) := by decide +kernel
set_option maxRecDepth 20000 in
theorem ggX6_runTrial_X6_verdict : GoodIn wsX6_runTrial wsX6_verdict := goodIn_r _ [6, 7, 8, 9, 10, 5, 11, 34, 35, 36, 37, 38, 39, 40, 41, 42, 43, 44, 45, 46, 47, 48, 49, 50, 51, 52, 53, 54, 55, 56, 57] (by decide +kernel) (by decide +kernel)
set_option maxRecDepth 20000 in
theorem gX6_runTrial_X6_verdict : GoodIn wsX6_runTrial (wsV RX6 105 RX6 yX6_verdict wsX6_verdict) := goodIn_app (goodIn_of _ (by decide +kernel)) ggX6_runTrial_X6_verdict
set_option maxRecDepth 20000 in
theorem ggX6_runTrial_X6_passOn : GoodIn wsX6_runTrial wsX6_passOn := goodIn_r _ [15, 7, 16, 2, 3, 4, 5, 6, 8, 9, 10, 11, 17, 18, 19, 20, 21, 22, 23, 24, 25, 26, 27, 28, 29, 30, 31, 32, 33, 34, 35, 36, 37, 38, 39, 40, 41, 42, 43, 44, 45, 46, 47, 48, 49, 50, 51, 52, 53, 54, 55, 56, 57] (by decide +kernel) (by decide +kernel)
set_option maxRecDepth 20000 in
theorem gX6_runTrial_X6_passOn : GoodIn wsX6_runTrial (wsV RX6 128 RX6 yX6_passOn wsX6_passOn) := goodIn_app (goodIn_of _ (by decide +kernel)) ggX6_runTrial_X6_passOn
theorem dX6_runTrial_0 : decode cX6_runTrial 0 = .ok (.iconst 0, 1) := by decide +kernel
theorem dX6_runTrial_1 : decode cX6_runTrial 1 = .ok (.istore_n 1, 1) := by decide +kernel
theorem dX6_runTrial_2 : decode cX6_runTrial 2 = .ok (.iload_n 1, 1) := by decide +kernel
theorem dX6_runTrial_3 : decode cX6_runTrial 3 = .ok (.bipush 20, 2) := by decide +kernel
theorem dX6_runTrial_5 : decode cX6_runTrial 5 = .ok (.if_icmp .gt 36, 3) := by decide +kernel
theorem dX6_runTrial_8 : decode cX6_runTrial 8 = .ok (.aload_n 0, 1) := by decide +kernel
theorem dX6_runTrial_9 : decode cX6_runTrial 9 = .ok (.iconst 1, 1) := by decide +kernel
theorem dX6_runTrial_10 : decode cX6_runTrial 10 = .ok (.invokevirtual 105, 3) := by decide +kernel
theorem dX6_runTrial_13 : decode cX6_runTrial 13 = .ok (.bipush 9, 2) := by decide +kernel
theorem dX6_runTrial_15 : decode cX6_runTrial 15 = .ok (.if_icmp .eq 14, 3) := by decide +kernel
theorem dX6_runTrial_18 : decode cX6_runTrial 18 = .ok (.aload_n 0, 1) := by decide +kernel
theorem dX6_runTrial_19 : decode cX6_runTrial 19 = .ok (.iload_n 1, 1) := by decide +kernel
theorem dX6_runTrial_20 : decode cX6_runTrial 20 = .ok (.putfield 143, 3) := by decide +kernel
theorem dX6_runTrial_23 : decode cX6_runTrial 23 = .ok (.aload_n 0, 1) := by decide +kernel
theorem dX6_runTrial_24 : decode cX6_runTrial 24 = .ok (.iconst 1, 1) := by decide +kernel
theorem dX6_runTrial_25 : decode cX6_runTrial 25 = .ok (.invokevirtual 105, 3) := by decide +kernel
theorem dX6_runTrial_28 : decode cX6_runTrial 28 = .ok (.ireturn, 1) := by decide +kernel
theorem dX6_runTrial_29 : decode cX6_runTrial 29 = .ok (.aload_n 0, 1) := by decide +kernel
theorem dX6_runTrial_30 : decode cX6_runTrial 30 = .ok (.iconst 1, 1) := by decide +kernel
theorem dX6_runTrial_31 : decode cX6_runTrial 31 = .ok (.invokevirtual 128, 3) := by decide +kernel
theorem dX6_runTrial_34 : decode cX6_runTrial 34 = .ok (.pop, 1) := by decide +kernel
theorem dX6_runTrial_35 : decode cX6_runTrial 35 = .ok (.iinc 1 1, 3) := by decide +kernel
theorem dX6_runTrial_38 : decode cX6_runTrial 38 = .ok (.goto (-36), 3) := by decide +kernel
theorem dX6_runTrial_41 : decode cX6_runTrial 41 = .ok (.aload_n 0, 1) := by decide +kernel
theorem dX6_runTrial_42 : decode cX6_runTrial 42 = .ok (.bipush (-9), 2) := by decide +kernel
theorem dX6_runTrial_44 : decode cX6_runTrial 44 = .ok (.putfield 143, 3) := by decide +kernel
theorem dX6_runTrial_47 : decode cX6_runTrial 47 = .ok (.bipush 9, 2) := by decide +kernel
theorem dX6_runTrial_49 : decode cX6_runTrial 49 = .ok (.ireturn, 1) := by decide +kernel
set_option maxRecDepth 20000 in
theorem ggX6_end_X6_in : GoodIn wsX6_end wsX6_in := goodIn_r _ [5] (by decide +kernel) (by decide +kernel)
set_option maxRecDepth 20000 in
theorem gX6_end_X6_in : GoodIn wsX6_end (va_wsS RX6 53 yX6_in wsX6_in) := goodIn_app (goodIn_of _ (by decide +kernel)) ggX6_end_X6_in
set_option maxRecDepth 20000 in
theorem ggX6_end_X6_layTrial : GoodIn wsX6_end wsX6_layTrial := goodIn_r _ [9, 10, 45, 46, 47, 48, 49, 50, 51, 52, 53, 54, 55, 56, 57, 58, 59, 60, 61, 62, 63, 64, 65, 66, 67, 68] (by decide +kernel) (by decide +kernel)
set_option maxRecDepth 20000 in
theorem gX6_end_X6_layTrial : GoodIn wsX6_end (wsV RX6 140 RX6 yX6_layTrial wsX6_layTrial) := goodIn_app (goodIn_of _ (by decide +kernel)) ggX6_end_X6_layTrial
set_option maxRecDepth 20000 in
theorem ggX6_end_X6_runTrial : GoodIn wsX6_end wsX6_runTrial := goodIn_r _ [14, 1, 15, 16, 17, 4, 18, 10, 19, 20, 21, 22, 23, 24, 25, 26, 27, 28, 29, 30, 31, 32, 33, 34, 35, 36, 37, 38, 39, 40, 41, 42, 43, 44, 45, 46, 47, 48, 49, 50, 51, 52, 53, 54, 55, 56, 57, 58, 59, 60, 61, 62, 63, 64, 65, 66, 67, 68] (by decide +kernel) (by decide +kernel)
set_option maxRecDepth 20000 in
theorem gX6_end_X6_runTrial : GoodIn wsX6_end (wsV RX6 146 RX6 yX6_runTrial wsX6_runTrial) := goodIn_app (goodIn_of _ (by decide +kernel)) ggX6_end_X6_runTrial
theorem dX6_end_0 : decode cX6_end 0 = .ok (.iload_n 1, 1) := by decide +kernel
theorem dX6_end_1 : decode cX6_end 1 = .ok (.i2l, 1) := by decide +kernel
theorem dX6_end_2 : decode cX6_end 2 = .ok (.lconst 0, 1) := by decide +kernel
theorem dX6_end_3 : decode cX6_end 3 = .ok (.lconst 1, 1) := by decide +kernel
theorem dX6_end_4 : decode cX6_end 4 = .ok (.invokestatic 53, 3) := by decide +kernel
theorem dX6_end_7 : decode cX6_end 7 = .ok (.ifCond .ne 6, 3) := by decide +kernel
theorem dX6_end_10 : decode cX6_end 10 = .ok (.bipush (-2), 2) := by decide +kernel
theorem dX6_end_12 : decode cX6_end 12 = .ok (.ireturn, 1) := by decide +kernel
theorem dX6_end_13 : decode cX6_end 13 = .ok (.aload_n 0, 1) := by decide +kernel
theorem dX6_end_14 : decode cX6_end 14 = .ok (.invokevirtual 140, 3) := by decide +kernel
theorem dX6_end_17 : decode cX6_end 17 = .ok (.aload_n 0, 1) := by decide +kernel
theorem dX6_end_18 : decode cX6_end 18 = .ok (.invokevirtual 146, 3) := by decide +kernel
theorem dX6_end_21 : decode cX6_end 21 = .ok (.istore_n 2, 1) := by decide +kernel
theorem dX6_end_22 : decode cX6_end 22 = .ok (.iload_n 1, 1) := by decide +kernel
theorem dX6_end_23 : decode cX6_end 23 = .ok (.ifCond .ne 10, 3) := by decide +kernel
theorem dX6_end_26 : decode cX6_end 26 = .ok (.aload_n 0, 1) := by decide +kernel
theorem dX6_end_27 : decode cX6_end 27 = .ok (.getfield 143, 3) := by decide +kernel
theorem dX6_end_30 : decode cX6_end 30 = .ok (.goto 15, 3) := by decide +kernel
theorem dX6_end_33 : decode cX6_end 33 = .ok (.iload_n 2, 1) := by decide +kernel
theorem dX6_end_34 : decode cX6_end 34 = .ok (.bipush 9, 2) := by decide +kernel
theorem dX6_end_36 : decode cX6_end 36 = .ok (.if_icmp .ne 8, 3) := by decide +kernel
theorem dX6_end_39 : decode cX6_end 39 = .ok (.bipush (-9), 2) := by decide +kernel
theorem dX6_end_41 : decode cX6_end 41 = .ok (.goto 4, 3) := by decide +kernel
theorem dX6_end_44 : decode cX6_end 44 = .ok (.iload_n 2, 1) := by decide +kernel
theorem dX6_end_45 : decode cX6_end 45 = .ok (.ireturn, 1) := by decide +kernel
set_option maxRecDepth 20000 in
theorem ggX6_gives_X6_isJuror : GoodIn wsX6_gives wsX6_isJuror := goodIn_r _ [6, 7, 8, 9, 5, 10, 44, 45, 46, 47, 48, 49, 50, 51, 52, 53, 54, 55, 56, 57, 58, 59, 60, 61, 62, 63, 64, 65, 66, 67] (by decide +kernel) (by decide +kernel)
set_option maxRecDepth 20000 in
theorem gX6_gives_X6_isJuror : GoodIn wsX6_gives (wsV RX6 118 RX6 yX6_isJuror wsX6_isJuror) := goodIn_app (goodIn_of _ (by decide +kernel)) ggX6_gives_X6_isJuror
set_option maxRecDepth 20000 in
theorem ggX6_gives_X6_isThere : GoodIn wsX6_gives wsX6_isThere := goodIn_r _ [14, 1, 15, 16, 5, 17, 44, 45, 46, 47, 48, 49, 50, 51, 52, 53, 54, 55, 56, 57, 58, 59, 60, 61, 62, 63, 64, 65, 66, 67] (by decide +kernel) (by decide +kernel)
set_option maxRecDepth 20000 in
theorem gX6_gives_X6_isThere : GoodIn wsX6_gives (wsV RX6 108 RX6 yX6_isThere wsX6_isThere) := goodIn_app (goodIn_of _ (by decide +kernel)) ggX6_gives_X6_isThere
set_option maxRecDepth 20000 in
theorem ggX6_gives_X6_layTrial : GoodIn wsX6_gives wsX6_layTrial := goodIn_r _ [21, 1, 44, 45, 46, 47, 48, 49, 50, 51, 52, 53, 54, 55, 56, 57, 58, 59, 60, 61, 62, 63, 64, 65, 66, 67] (by decide +kernel) (by decide +kernel)
set_option maxRecDepth 20000 in
theorem gX6_gives_X6_layTrial : GoodIn wsX6_gives (wsV RX6 140 RX6 yX6_layTrial wsX6_layTrial) := goodIn_app (goodIn_of _ (by decide +kernel)) ggX6_gives_X6_layTrial
set_option maxRecDepth 20000 in
theorem ggX6_gives_X6_passOn : GoodIn wsX6_gives wsX6_passOn := goodIn_r _ [25, 1, 7, 26, 27, 28, 5, 29, 30, 31, 32, 33, 11, 12, 13, 14, 15, 16, 17, 34, 35, 36, 37, 38, 39, 40, 41, 42, 43, 44, 45, 46, 47, 48, 49, 50, 51, 52, 53, 54, 55, 56, 57, 58, 59, 60, 61, 62, 63, 64, 65, 66, 67] (by decide +kernel) (by decide +kernel)
set_option maxRecDepth 20000 in
theorem gX6_gives_X6_passOn : GoodIn wsX6_gives (wsV RX6 128 RX6 yX6_passOn wsX6_passOn) := goodIn_app (goodIn_of _ (by decide +kernel)) ggX6_gives_X6_passOn
set_option maxRecDepth 20000 in
theorem ggX6_gives_X6_has : GoodIn wsX6_gives wsX6_has := goodIn_r _ [17] (by decide +kernel) (by decide +kernel)
set_option maxRecDepth 20000 in
theorem gX6_gives_X6_has : GoodIn wsX6_gives (va_wsS RX6 68 yX6_has wsX6_has) := goodIn_app (goodIn_of _ (by decide +kernel)) ggX6_gives_X6_has
theorem dX6_gives_0 : decode cX6_gives 0 = .ok (.aload_n 0, 1) := by decide +kernel
theorem dX6_gives_1 : decode cX6_gives 1 = .ok (.iload_n 1, 1) := by decide +kernel
theorem dX6_gives_2 : decode cX6_gives 2 = .ok (.invokevirtual 118, 3) := by decide +kernel
theorem dX6_gives_5 : decode cX6_gives 5 = .ok (.ifCond .ne 5, 3) := by decide +kernel
theorem dX6_gives_8 : decode cX6_gives 8 = .ok (.iconst (-1), 1) := by decide +kernel
theorem dX6_gives_9 : decode cX6_gives 9 = .ok (.ireturn, 1) := by decide +kernel
theorem dX6_gives_10 : decode cX6_gives 10 = .ok (.aload_n 0, 1) := by decide +kernel
theorem dX6_gives_11 : decode cX6_gives 11 = .ok (.iconst 0, 1) := by decide +kernel
theorem dX6_gives_12 : decode cX6_gives 12 = .ok (.iload_n 1, 1) := by decide +kernel
theorem dX6_gives_13 : decode cX6_gives 13 = .ok (.invokevirtual 108, 3) := by decide +kernel
theorem dX6_gives_16 : decode cX6_gives 16 = .ok (.ifCond .ne 6, 3) := by decide +kernel
theorem dX6_gives_19 : decode cX6_gives 19 = .ok (.bipush (-3), 2) := by decide +kernel
theorem dX6_gives_21 : decode cX6_gives 21 = .ok (.ireturn, 1) := by decide +kernel
theorem dX6_gives_22 : decode cX6_gives 22 = .ok (.aload_n 0, 1) := by decide +kernel
theorem dX6_gives_23 : decode cX6_gives 23 = .ok (.invokevirtual 140, 3) := by decide +kernel
theorem dX6_gives_26 : decode cX6_gives 26 = .ok (.iconst 1, 1) := by decide +kernel
theorem dX6_gives_27 : decode cX6_gives 27 = .ok (.istore_n 2, 1) := by decide +kernel
theorem dX6_gives_28 : decode cX6_gives 28 = .ok (.iload_n 2, 1) := by decide +kernel
theorem dX6_gives_29 : decode cX6_gives 29 = .ok (.bipush 20, 2) := by decide +kernel
theorem dX6_gives_31 : decode cX6_gives 31 = .ok (.if_icmp .gt 41, 3) := by decide +kernel
theorem dX6_gives_34 : decode cX6_gives 34 = .ok (.aload_n 0, 1) := by decide +kernel
theorem dX6_gives_35 : decode cX6_gives 35 = .ok (.iconst 1, 1) := by decide +kernel
theorem dX6_gives_36 : decode cX6_gives 36 = .ok (.invokevirtual 128, 3) := by decide +kernel
theorem dX6_gives_39 : decode cX6_gives 39 = .ok (.pop, 1) := by decide +kernel
theorem dX6_gives_40 : decode cX6_gives 40 = .ok (.aload_n 0, 1) := by decide +kernel
theorem dX6_gives_41 : decode cX6_gives 41 = .ok (.getfield 16, 3) := by decide +kernel
theorem dX6_gives_44 : decode cX6_gives 44 = .ok (.bipush 15, 2) := by decide +kernel
theorem dX6_gives_46 : decode cX6_gives 46 = .ok (.iaload, 1) := by decide +kernel
theorem dX6_gives_47 : decode cX6_gives 47 = .ok (.iload_n 1, 1) := by decide +kernel
theorem dX6_gives_48 : decode cX6_gives 48 = .ok (.invokestatic 68, 3) := by decide +kernel
theorem dX6_gives_51 : decode cX6_gives 51 = .ok (.aload_n 0, 1) := by decide +kernel
theorem dX6_gives_52 : decode cX6_gives 52 = .ok (.getfield 16, 3) := by decide +kernel
theorem dX6_gives_55 : decode cX6_gives 55 = .ok (.iconst 0, 1) := by decide +kernel
theorem dX6_gives_56 : decode cX6_gives 56 = .ok (.iaload, 1) := by decide +kernel
theorem dX6_gives_57 : decode cX6_gives 57 = .ok (.iload_n 1, 1) := by decide +kernel
theorem dX6_gives_58 : decode cX6_gives 58 = .ok (.invokestatic 68, 3) := by decide +kernel
theorem dX6_gives_61 : decode cX6_gives 61 = .ok (.if_icmp .eq 5, 3) := by decide +kernel
theorem dX6_gives_64 : decode cX6_gives 64 = .ok (.iload_n 2, 1) := by decide +kernel
theorem dX6_gives_65 : decode cX6_gives 65 = .ok (.ireturn, 1) := by decide +kernel
theorem dX6_gives_66 : decode cX6_gives 66 = .ok (.iinc 2 1, 3) := by decide +kernel
theorem dX6_gives_69 : decode cX6_gives 69 = .ok (.goto (-41), 3) := by decide +kernel
theorem dX6_gives_72 : decode cX6_gives 72 = .ok (.bipush (-9), 2) := by decide +kernel
theorem dX6_gives_74 : decode cX6_gives 74 = .ok (.ireturn, 1) := by decide +kernel
set_option maxRecDepth 20000 in
theorem ggX6_toFeed_X6_in : GoodIn wsX6_toFeed wsX6_in := goodIn_r _ [6] (by decide +kernel) (by decide +kernel)
set_option maxRecDepth 20000 in
theorem gX6_toFeed_X6_in : GoodIn wsX6_toFeed (va_wsS RX6 53 yX6_in wsX6_in) := goodIn_app (goodIn_of _ (by decide +kernel)) ggX6_toFeed_X6_in
set_option maxRecDepth 20000 in
theorem ggX6_toFeed_X6_ones : GoodIn wsX6_toFeed wsX6_ones := goodIn_r _ [9] (by decide +kernel) (by decide +kernel)
set_option maxRecDepth 20000 in
theorem gX6_toFeed_X6_ones : GoodIn wsX6_toFeed (va_wsS RX6 102 yX6_ones wsX6_ones) := goodIn_app (goodIn_of _ (by decide +kernel)) ggX6_toFeed_X6_ones
set_option maxRecDepth 20000 in
theorem ggX6_toFeed_X6_layTrial : GoodIn wsX6_toFeed wsX6_layTrial := goodIn_r _ [13, 1, 45, 46, 47, 48, 49, 50, 51, 52, 53, 54, 55, 56, 57, 58, 59, 60, 61, 62, 63, 64, 65, 66, 67, 68] (by decide +kernel) (by decide +kernel)
set_option maxRecDepth 20000 in
theorem gX6_toFeed_X6_layTrial : GoodIn wsX6_toFeed (wsV RX6 140 RX6 yX6_layTrial wsX6_layTrial) := goodIn_app (goodIn_of _ (by decide +kernel)) ggX6_toFeed_X6_layTrial
set_option maxRecDepth 20000 in
theorem ggX6_toFeed_X6_has : GoodIn wsX6_toFeed wsX6_has := goodIn_r _ [16] (by decide +kernel) (by decide +kernel)
set_option maxRecDepth 20000 in
theorem gX6_toFeed_X6_has : GoodIn wsX6_toFeed (va_wsS RX6 68 yX6_has wsX6_has) := goodIn_app (goodIn_of _ (by decide +kernel)) ggX6_toFeed_X6_has
set_option maxRecDepth 20000 in
theorem ggX6_toFeed_X6_runTrial : GoodIn wsX6_toFeed wsX6_runTrial := goodIn_r _ [20, 21, 22, 23, 24, 5, 25, 1, 26, 7, 8, 9, 27, 28, 29, 30, 2, 31, 32, 33, 34, 14, 15, 16, 35, 36, 37, 38, 39, 40, 41, 42, 43, 44, 45, 46, 47, 48, 49, 50, 51, 52, 53, 54, 55, 56, 57, 58, 59, 60, 61, 62, 63, 64, 65, 66, 67, 68] (by decide +kernel) (by decide +kernel)
set_option maxRecDepth 20000 in
theorem gX6_toFeed_X6_runTrial : GoodIn wsX6_toFeed (wsV RX6 146 RX6 yX6_runTrial wsX6_runTrial) := goodIn_app (goodIn_of _ (by decide +kernel)) ggX6_toFeed_X6_runTrial
theorem dX6_toFeed_0 : decode cX6_toFeed 0 = .ok (.iload_n 1, 1) := by decide +kernel
theorem dX6_toFeed_1 : decode cX6_toFeed 1 = .ok (.i2l, 1) := by decide +kernel
theorem dX6_toFeed_2 : decode cX6_toFeed 2 = .ok (.lconst 0, 1) := by decide +kernel
theorem dX6_toFeed_3 : decode cX6_toFeed 3 = .ok (.lconst 1, 1) := by decide +kernel
theorem dX6_toFeed_4 : decode cX6_toFeed 4 = .ok (.invokestatic 53, 3) := by decide +kernel
theorem dX6_toFeed_7 : decode cX6_toFeed 7 = .ok (.ifCond .ne 6, 3) := by decide +kernel
theorem dX6_toFeed_10 : decode cX6_toFeed 10 = .ok (.bipush (-2), 2) := by decide +kernel
theorem dX6_toFeed_12 : decode cX6_toFeed 12 = .ok (.ireturn, 1) := by decide +kernel
theorem dX6_toFeed_13 : decode cX6_toFeed 13 = .ok (.bipush (-9), 2) := by decide +kernel
theorem dX6_toFeed_15 : decode cX6_toFeed 15 = .ok (.istore_n 2, 1) := by decide +kernel
theorem dX6_toFeed_16 : decode cX6_toFeed 16 = .ok (.iconst 0, 1) := by decide +kernel
theorem dX6_toFeed_17 : decode cX6_toFeed 17 = .ok (.istore_n 3, 1) := by decide +kernel
theorem dX6_toFeed_18 : decode cX6_toFeed 18 = .ok (.iload_n 3, 1) := by decide +kernel
theorem dX6_toFeed_19 : decode cX6_toFeed 19 = .ok (.bipush 64, 2) := by decide +kernel
theorem dX6_toFeed_21 : decode cX6_toFeed 21 = .ok (.if_icmp .ge 120, 3) := by decide +kernel
theorem dX6_toFeed_24 : decode cX6_toFeed 24 = .ok (.iload_n 2, 1) := by decide +kernel
theorem dX6_toFeed_25 : decode cX6_toFeed 25 = .ok (.bipush (-9), 2) := by decide +kernel
theorem dX6_toFeed_27 : decode cX6_toFeed 27 = .ok (.if_icmp .eq 14, 3) := by decide +kernel
theorem dX6_toFeed_30 : decode cX6_toFeed 30 = .ok (.iload_n 3, 1) := by decide +kernel
theorem dX6_toFeed_31 : decode cX6_toFeed 31 = .ok (.invokestatic 102, 3) := by decide +kernel
theorem dX6_toFeed_34 : decode cX6_toFeed 34 = .ok (.iload_n 2, 1) := by decide +kernel
theorem dX6_toFeed_35 : decode cX6_toFeed 35 = .ok (.invokestatic 102, 3) := by decide +kernel
theorem dX6_toFeed_38 : decode cX6_toFeed 38 = .ok (.if_icmp .ge 7, 3) := by decide +kernel
theorem dX6_toFeed_41 : decode cX6_toFeed 41 = .ok (.iconst 1, 1) := by decide +kernel
theorem dX6_toFeed_42 : decode cX6_toFeed 42 = .ok (.goto 4, 3) := by decide +kernel
theorem dX6_toFeed_45 : decode cX6_toFeed 45 = .ok (.iconst 0, 1) := by decide +kernel
theorem dX6_toFeed_46 : decode cX6_toFeed 46 = .ok (.istore 4, 2) := by decide +kernel
theorem dX6_toFeed_48 : decode cX6_toFeed 48 = .ok (.iload 4, 2) := by decide +kernel
theorem dX6_toFeed_50 : decode cX6_toFeed 50 = .ok (.ifCond .eq 85, 3) := by decide +kernel
theorem dX6_toFeed_53 : decode cX6_toFeed 53 = .ok (.iload_n 3, 1) := by decide +kernel
theorem dX6_toFeed_54 : decode cX6_toFeed 54 = .ok (.aload_n 0, 1) := by decide +kernel
theorem dX6_toFeed_55 : decode cX6_toFeed 55 = .ok (.getfield 16, 3) := by decide +kernel
theorem dX6_toFeed_58 : decode cX6_toFeed 58 = .ok (.iconst 1, 1) := by decide +kernel
theorem dX6_toFeed_59 : decode cX6_toFeed 59 = .ok (.iaload, 1) := by decide +kernel
theorem dX6_toFeed_60 : decode cX6_toFeed 60 = .ok (.iconst (-1), 1) := by decide +kernel
theorem dX6_toFeed_61 : decode cX6_toFeed 61 = .ok (.ixor, 1) := by decide +kernel
theorem dX6_toFeed_62 : decode cX6_toFeed 62 = .ok (.iand, 1) := by decide +kernel
theorem dX6_toFeed_63 : decode cX6_toFeed 63 = .ok (.ifCond .ne 72, 3) := by decide +kernel
theorem dX6_toFeed_66 : decode cX6_toFeed 66 = .ok (.aload_n 0, 1) := by decide +kernel
theorem dX6_toFeed_67 : decode cX6_toFeed 67 = .ok (.invokevirtual 140, 3) := by decide +kernel
theorem dX6_toFeed_70 : decode cX6_toFeed 70 = .ok (.iconst 0, 1) := by decide +kernel
theorem dX6_toFeed_71 : decode cX6_toFeed 71 = .ok (.istore 5, 2) := by decide +kernel
theorem dX6_toFeed_73 : decode cX6_toFeed 73 = .ok (.iload 5, 2) := by decide +kernel
theorem dX6_toFeed_75 : decode cX6_toFeed 75 = .ok (.aload_n 0, 1) := by decide +kernel
theorem dX6_toFeed_76 : decode cX6_toFeed 76 = .ok (.getfield 96, 3) := by decide +kernel
theorem dX6_toFeed_79 : decode cX6_toFeed 79 = .ok (.if_icmp .ge 42, 3) := by decide +kernel
theorem dX6_toFeed_82 : decode cX6_toFeed 82 = .ok (.aload_n 0, 1) := by decide +kernel
theorem dX6_toFeed_83 : decode cX6_toFeed 83 = .ok (.getfield 16, 3) := by decide +kernel
theorem dX6_toFeed_86 : decode cX6_toFeed 86 = .ok (.bipush 24, 2) := by decide +kernel
theorem dX6_toFeed_88 : decode cX6_toFeed 88 = .ok (.iload 5, 2) := by decide +kernel
theorem dX6_toFeed_90 : decode cX6_toFeed 90 = .ok (.iadd, 1) := by decide +kernel
theorem dX6_toFeed_91 : decode cX6_toFeed 91 = .ok (.iload_n 3, 1) := by decide +kernel
theorem dX6_toFeed_92 : decode cX6_toFeed 92 = .ok (.iload 5, 2) := by decide +kernel
theorem dX6_toFeed_94 : decode cX6_toFeed 94 = .ok (.invokestatic 68, 3) := by decide +kernel
theorem dX6_toFeed_97 : decode cX6_toFeed 97 = .ok (.ifCond .eq 7, 3) := by decide +kernel
theorem dX6_toFeed_100 : decode cX6_toFeed 100 = .ok (.iconst 0, 1) := by decide +kernel
theorem dX6_toFeed_101 : decode cX6_toFeed 101 = .ok (.goto 13, 3) := by decide +kernel
theorem dX6_toFeed_104 : decode cX6_toFeed 104 = .ok (.aload_n 0, 1) := by decide +kernel
theorem dX6_toFeed_105 : decode cX6_toFeed 105 = .ok (.getfield 16, 3) := by decide +kernel
theorem dX6_toFeed_108 : decode cX6_toFeed 108 = .ok (.bipush 9, 2) := by decide +kernel
theorem dX6_toFeed_110 : decode cX6_toFeed 110 = .ok (.iload 5, 2) := by decide +kernel
theorem dX6_toFeed_112 : decode cX6_toFeed 112 = .ok (.iadd, 1) := by decide +kernel
theorem dX6_toFeed_113 : decode cX6_toFeed 113 = .ok (.iaload, 1) := by decide +kernel
theorem dX6_toFeed_114 : decode cX6_toFeed 114 = .ok (.iastore, 1) := by decide +kernel
theorem dX6_toFeed_115 : decode cX6_toFeed 115 = .ok (.iinc 5 1, 3) := by decide +kernel
theorem dX6_toFeed_118 : decode cX6_toFeed 118 = .ok (.goto (-45), 3) := by decide +kernel
theorem dX6_toFeed_121 : decode cX6_toFeed 121 = .ok (.aload_n 0, 1) := by decide +kernel
theorem dX6_toFeed_122 : decode cX6_toFeed 122 = .ok (.invokevirtual 146, 3) := by decide +kernel
theorem dX6_toFeed_125 : decode cX6_toFeed 125 = .ok (.iload_n 1, 1) := by decide +kernel
theorem dX6_toFeed_126 : decode cX6_toFeed 126 = .ok (.if_icmp .ne 7, 3) := by decide +kernel
theorem dX6_toFeed_129 : decode cX6_toFeed 129 = .ok (.iload_n 3, 1) := by decide +kernel
theorem dX6_toFeed_130 : decode cX6_toFeed 130 = .ok (.goto 4, 3) := by decide +kernel
theorem dX6_toFeed_133 : decode cX6_toFeed 133 = .ok (.iload_n 2, 1) := by decide +kernel
theorem dX6_toFeed_134 : decode cX6_toFeed 134 = .ok (.istore_n 2, 1) := by decide +kernel
theorem dX6_toFeed_135 : decode cX6_toFeed 135 = .ok (.iinc 3 1, 3) := by decide +kernel
theorem dX6_toFeed_138 : decode cX6_toFeed 138 = .ok (.goto (-120), 3) := by decide +kernel
theorem dX6_toFeed_141 : decode cX6_toFeed 141 = .ok (.iload_n 2, 1) := by decide +kernel
theorem dX6_toFeed_142 : decode cX6_toFeed 142 = .ok (.ireturn, 1) := by decide +kernel
set_option maxRecDepth 20000 in
theorem ggX6_strike_X6_in : GoodIn wsX6_strike wsX6_in := goodIn_r _ [6] (by decide +kernel) (by decide +kernel)
set_option maxRecDepth 20000 in
theorem gX6_strike_X6_in : GoodIn wsX6_strike (va_wsS RX6 53 yX6_in wsX6_in) := goodIn_app (goodIn_of _ (by decide +kernel)) ggX6_strike_X6_in
set_option maxRecDepth 20000 in
theorem ggX6_strike_X6_ones : GoodIn wsX6_strike wsX6_ones := goodIn_r _ [9] (by decide +kernel) (by decide +kernel)
set_option maxRecDepth 20000 in
theorem gX6_strike_X6_ones : GoodIn wsX6_strike (va_wsS RX6 102 yX6_ones wsX6_ones) := goodIn_app (goodIn_of _ (by decide +kernel)) ggX6_strike_X6_ones
set_option maxRecDepth 20000 in
theorem ggX6_strike_X6_layTrial : GoodIn wsX6_strike wsX6_layTrial := goodIn_r _ [13, 1, 49, 50, 51, 52, 53, 54, 55, 56, 57, 58, 59, 60, 61, 62, 63, 64, 65, 66, 67, 68, 69, 70, 71, 72] (by decide +kernel) (by decide +kernel)
set_option maxRecDepth 20000 in
theorem gX6_strike_X6_layTrial : GoodIn wsX6_strike (wsV RX6 140 RX6 yX6_layTrial wsX6_layTrial) := goodIn_app (goodIn_of _ (by decide +kernel)) ggX6_strike_X6_layTrial
set_option maxRecDepth 20000 in
theorem ggX6_strike_X6_has : GoodIn wsX6_strike wsX6_has := goodIn_r _ [16] (by decide +kernel) (by decide +kernel)
set_option maxRecDepth 20000 in
theorem gX6_strike_X6_has : GoodIn wsX6_strike (va_wsS RX6 68 yX6_has wsX6_has) := goodIn_app (goodIn_of _ (by decide +kernel)) ggX6_strike_X6_has
set_option maxRecDepth 20000 in
theorem ggX6_strike_X6_dieOn : GoodIn wsX6_strike wsX6_dieOn := goodIn_r _ [20, 1, 49, 50, 51, 52, 53, 54, 55, 56, 57, 58, 59, 60, 61, 62, 63, 64, 65, 66, 67, 68, 69, 70, 71, 72] (by decide +kernel) (by decide +kernel)
set_option maxRecDepth 20000 in
theorem gX6_strike_X6_dieOn : GoodIn wsX6_strike (wsV RX6 137 RX6 yX6_dieOn wsX6_dieOn) := goodIn_app (goodIn_of _ (by decide +kernel)) ggX6_strike_X6_dieOn
set_option maxRecDepth 20000 in
theorem ggX6_strike_X6_runTrial : GoodIn wsX6_strike wsX6_runTrial := goodIn_r _ [24, 25, 26, 27, 28, 5, 29, 1, 30, 7, 8, 9, 31, 32, 33, 34, 2, 35, 36, 37, 38, 14, 15, 16, 39, 40, 41, 42, 43, 44, 45, 46, 47, 48, 49, 50, 51, 52, 53, 54, 55, 56, 57, 58, 59, 60, 61, 62, 63, 64, 65, 66, 67, 68, 69, 70, 71, 72] (by decide +kernel) (by decide +kernel)
set_option maxRecDepth 20000 in
theorem gX6_strike_X6_runTrial : GoodIn wsX6_strike (wsV RX6 146 RX6 yX6_runTrial wsX6_runTrial) := goodIn_app (goodIn_of _ (by decide +kernel)) ggX6_strike_X6_runTrial
theorem dX6_strike_0 : decode cX6_strike 0 = .ok (.iload_n 1, 1) := by decide +kernel
theorem dX6_strike_1 : decode cX6_strike 1 = .ok (.i2l, 1) := by decide +kernel
theorem dX6_strike_2 : decode cX6_strike 2 = .ok (.lconst 0, 1) := by decide +kernel
theorem dX6_strike_3 : decode cX6_strike 3 = .ok (.lconst 1, 1) := by decide +kernel
theorem dX6_strike_4 : decode cX6_strike 4 = .ok (.invokestatic 53, 3) := by decide +kernel
theorem dX6_strike_7 : decode cX6_strike 7 = .ok (.ifCond .ne 6, 3) := by decide +kernel
theorem dX6_strike_10 : decode cX6_strike 10 = .ok (.bipush (-2), 2) := by decide +kernel
theorem dX6_strike_12 : decode cX6_strike 12 = .ok (.ireturn, 1) := by decide +kernel
theorem dX6_strike_13 : decode cX6_strike 13 = .ok (.bipush (-9), 2) := by decide +kernel
theorem dX6_strike_15 : decode cX6_strike 15 = .ok (.istore_n 2, 1) := by decide +kernel
theorem dX6_strike_16 : decode cX6_strike 16 = .ok (.iconst 0, 1) := by decide +kernel
theorem dX6_strike_17 : decode cX6_strike 17 = .ok (.istore_n 3, 1) := by decide +kernel
theorem dX6_strike_18 : decode cX6_strike 18 = .ok (.iload_n 3, 1) := by decide +kernel
theorem dX6_strike_19 : decode cX6_strike 19 = .ok (.bipush 64, 2) := by decide +kernel
theorem dX6_strike_21 : decode cX6_strike 21 = .ok (.if_icmp .ge 113, 3) := by decide +kernel
theorem dX6_strike_24 : decode cX6_strike 24 = .ok (.iload_n 2, 1) := by decide +kernel
theorem dX6_strike_25 : decode cX6_strike 25 = .ok (.bipush (-9), 2) := by decide +kernel
theorem dX6_strike_27 : decode cX6_strike 27 = .ok (.if_icmp .eq 14, 3) := by decide +kernel
theorem dX6_strike_30 : decode cX6_strike 30 = .ok (.iload_n 3, 1) := by decide +kernel
theorem dX6_strike_31 : decode cX6_strike 31 = .ok (.invokestatic 102, 3) := by decide +kernel
theorem dX6_strike_34 : decode cX6_strike 34 = .ok (.iload_n 2, 1) := by decide +kernel
theorem dX6_strike_35 : decode cX6_strike 35 = .ok (.invokestatic 102, 3) := by decide +kernel
theorem dX6_strike_38 : decode cX6_strike 38 = .ok (.if_icmp .ge 7, 3) := by decide +kernel
theorem dX6_strike_41 : decode cX6_strike 41 = .ok (.iconst 1, 1) := by decide +kernel
theorem dX6_strike_42 : decode cX6_strike 42 = .ok (.goto 4, 3) := by decide +kernel
theorem dX6_strike_45 : decode cX6_strike 45 = .ok (.iconst 0, 1) := by decide +kernel
theorem dX6_strike_46 : decode cX6_strike 46 = .ok (.istore 4, 2) := by decide +kernel
theorem dX6_strike_48 : decode cX6_strike 48 = .ok (.iload 4, 2) := by decide +kernel
theorem dX6_strike_50 : decode cX6_strike 50 = .ok (.ifCond .eq 78, 3) := by decide +kernel
theorem dX6_strike_53 : decode cX6_strike 53 = .ok (.iload_n 3, 1) := by decide +kernel
theorem dX6_strike_54 : decode cX6_strike 54 = .ok (.aload_n 0, 1) := by decide +kernel
theorem dX6_strike_55 : decode cX6_strike 55 = .ok (.getfield 16, 3) := by decide +kernel
theorem dX6_strike_58 : decode cX6_strike 58 = .ok (.iconst 1, 1) := by decide +kernel
theorem dX6_strike_59 : decode cX6_strike 59 = .ok (.iaload, 1) := by decide +kernel
theorem dX6_strike_60 : decode cX6_strike 60 = .ok (.iconst (-1), 1) := by decide +kernel
theorem dX6_strike_61 : decode cX6_strike 61 = .ok (.ixor, 1) := by decide +kernel
theorem dX6_strike_62 : decode cX6_strike 62 = .ok (.iand, 1) := by decide +kernel
theorem dX6_strike_63 : decode cX6_strike 63 = .ok (.ifCond .ne 65, 3) := by decide +kernel
theorem dX6_strike_66 : decode cX6_strike 66 = .ok (.iload_n 3, 1) := by decide +kernel
theorem dX6_strike_67 : decode cX6_strike 67 = .ok (.aload_n 0, 1) := by decide +kernel
theorem dX6_strike_68 : decode cX6_strike 68 = .ok (.getfield 16, 3) := by decide +kernel
theorem dX6_strike_71 : decode cX6_strike 71 = .ok (.iconst 1, 1) := by decide +kernel
theorem dX6_strike_72 : decode cX6_strike 72 = .ok (.iaload, 1) := by decide +kernel
theorem dX6_strike_73 : decode cX6_strike 73 = .ok (.if_icmp .eq 55, 3) := by decide +kernel
theorem dX6_strike_76 : decode cX6_strike 76 = .ok (.aload_n 0, 1) := by decide +kernel
theorem dX6_strike_77 : decode cX6_strike 77 = .ok (.invokevirtual 140, 3) := by decide +kernel
theorem dX6_strike_80 : decode cX6_strike 80 = .ok (.iconst 0, 1) := by decide +kernel
theorem dX6_strike_81 : decode cX6_strike 81 = .ok (.istore 5, 2) := by decide +kernel
theorem dX6_strike_83 : decode cX6_strike 83 = .ok (.iload 5, 2) := by decide +kernel
theorem dX6_strike_85 : decode cX6_strike 85 = .ok (.aload_n 0, 1) := by decide +kernel
theorem dX6_strike_86 : decode cX6_strike 86 = .ok (.getfield 96, 3) := by decide +kernel
theorem dX6_strike_89 : decode cX6_strike 89 = .ok (.if_icmp .ge 25, 3) := by decide +kernel
theorem dX6_strike_92 : decode cX6_strike 92 = .ok (.iload_n 3, 1) := by decide +kernel
theorem dX6_strike_93 : decode cX6_strike 93 = .ok (.iload 5, 2) := by decide +kernel
theorem dX6_strike_95 : decode cX6_strike 95 = .ok (.invokestatic 68, 3) := by decide +kernel
theorem dX6_strike_98 : decode cX6_strike 98 = .ok (.ifCond .eq 10, 3) := by decide +kernel
theorem dX6_strike_101 : decode cX6_strike 101 = .ok (.aload_n 0, 1) := by decide +kernel
theorem dX6_strike_102 : decode cX6_strike 102 = .ok (.iconst 1, 1) := by decide +kernel
theorem dX6_strike_103 : decode cX6_strike 103 = .ok (.iload 5, 2) := by decide +kernel
theorem dX6_strike_105 : decode cX6_strike 105 = .ok (.invokevirtual 137, 3) := by decide +kernel
theorem dX6_strike_108 : decode cX6_strike 108 = .ok (.iinc 5 1, 3) := by decide +kernel
theorem dX6_strike_111 : decode cX6_strike 111 = .ok (.goto (-28), 3) := by decide +kernel
theorem dX6_strike_114 : decode cX6_strike 114 = .ok (.aload_n 0, 1) := by decide +kernel
theorem dX6_strike_115 : decode cX6_strike 115 = .ok (.invokevirtual 146, 3) := by decide +kernel
theorem dX6_strike_118 : decode cX6_strike 118 = .ok (.iload_n 1, 1) := by decide +kernel
theorem dX6_strike_119 : decode cX6_strike 119 = .ok (.if_icmp .ne 7, 3) := by decide +kernel
theorem dX6_strike_122 : decode cX6_strike 122 = .ok (.iload_n 3, 1) := by decide +kernel
theorem dX6_strike_123 : decode cX6_strike 123 = .ok (.goto 4, 3) := by decide +kernel
theorem dX6_strike_126 : decode cX6_strike 126 = .ok (.iload_n 2, 1) := by decide +kernel
theorem dX6_strike_127 : decode cX6_strike 127 = .ok (.istore_n 2, 1) := by decide +kernel
theorem dX6_strike_128 : decode cX6_strike 128 = .ok (.iinc 3 1, 3) := by decide +kernel
theorem dX6_strike_131 : decode cX6_strike 131 = .ok (.goto (-113), 3) := by decide +kernel
theorem dX6_strike_134 : decode cX6_strike 134 = .ok (.iload_n 2, 1) := by decide +kernel
theorem dX6_strike_135 : decode cX6_strike 135 = .ok (.ireturn, 1) := by decide +kernel
theorem dX6_tenTo_0 : decode cX6_tenTo 0 = .ok (.iconst 1, 1) := by decide +kernel
theorem dX6_tenTo_1 : decode cX6_tenTo 1 = .ok (.istore_n 1, 1) := by decide +kernel
theorem dX6_tenTo_2 : decode cX6_tenTo 2 = .ok (.iconst 0, 1) := by decide +kernel
theorem dX6_tenTo_3 : decode cX6_tenTo 3 = .ok (.istore_n 2, 1) := by decide +kernel
theorem dX6_tenTo_4 : decode cX6_tenTo 4 = .ok (.iload_n 2, 1) := by decide +kernel
theorem dX6_tenTo_5 : decode cX6_tenTo 5 = .ok (.iload_n 0, 1) := by decide +kernel
theorem dX6_tenTo_6 : decode cX6_tenTo 6 = .ok (.if_icmp .ge 14, 3) := by decide +kernel
theorem dX6_tenTo_9 : decode cX6_tenTo 9 = .ok (.iload_n 1, 1) := by decide +kernel
theorem dX6_tenTo_10 : decode cX6_tenTo 10 = .ok (.bipush 10, 2) := by decide +kernel
theorem dX6_tenTo_12 : decode cX6_tenTo 12 = .ok (.imul, 1) := by decide +kernel
theorem dX6_tenTo_13 : decode cX6_tenTo 13 = .ok (.istore_n 1, 1) := by decide +kernel
theorem dX6_tenTo_14 : decode cX6_tenTo 14 = .ok (.iinc 2 1, 3) := by decide +kernel
theorem dX6_tenTo_17 : decode cX6_tenTo 17 = .ok (.goto (-13), 3) := by decide +kernel
theorem dX6_tenTo_20 : decode cX6_tenTo 20 = .ok (.iload_n 1, 1) := by decide +kernel
theorem dX6_tenTo_21 : decode cX6_tenTo 21 = .ok (.ireturn, 1) := by decide +kernel
set_option maxRecDepth 20000 in
theorem ggX6_isMove_X6_layTrial : GoodIn wsX6_isMove wsX6_layTrial := goodIn_r _ [6, 1, 56, 57, 58, 59, 60, 61, 62, 63, 64, 65, 66, 67, 68, 69, 70, 71, 72, 73, 74, 75, 76, 77, 78, 79] (by decide +kernel) (by decide +kernel)
set_option maxRecDepth 20000 in
theorem gX6_isMove_X6_layTrial : GoodIn wsX6_isMove (wsV RX6 140 RX6 yX6_layTrial wsX6_layTrial) := goodIn_app (goodIn_of _ (by decide +kernel)) ggX6_isMove_X6_layTrial
set_option maxRecDepth 20000 in
theorem ggX6_isMove_X6_tenTo : GoodIn wsX6_isMove wsX6_tenTo := goodIn_r _ [9] (by decide +kernel) (by decide +kernel)
set_option maxRecDepth 20000 in
theorem gX6_isMove_X6_tenTo : GoodIn wsX6_isMove (va_wsS RX6 149 yX6_tenTo wsX6_tenTo) := goodIn_app (goodIn_of _ (by decide +kernel)) ggX6_isMove_X6_tenTo
set_option maxRecDepth 20000 in
theorem ggX6_isMove_X6_isJuror : GoodIn wsX6_isMove wsX6_isJuror := goodIn_r _ [13, 14, 15, 16, 5, 17, 56, 57, 58, 59, 60, 61, 62, 63, 64, 65, 66, 67, 68, 69, 70, 71, 72, 73, 74, 75, 76, 77, 78, 79] (by decide +kernel) (by decide +kernel)
set_option maxRecDepth 20000 in
theorem gX6_isMove_X6_isJuror : GoodIn wsX6_isMove (wsV RX6 118 RX6 yX6_isJuror wsX6_isJuror) := goodIn_app (goodIn_of _ (by decide +kernel)) ggX6_isMove_X6_isJuror
set_option maxRecDepth 20000 in
theorem ggX6_isMove_X6_canArgue : GoodIn wsX6_isMove wsX6_canArgue := goodIn_r _ [21, 1, 22, 23, 24, 5, 25, 26, 27, 28, 56, 57, 58, 59, 60, 61, 62, 63, 64, 65, 66, 67, 68, 69, 70, 71, 72, 73, 74, 75, 76, 77, 78, 79] (by decide +kernel) (by decide +kernel)
set_option maxRecDepth 20000 in
theorem gX6_isMove_X6_canArgue : GoodIn wsX6_isMove (wsV RX6 131 RX6 yX6_canArgue wsX6_canArgue) := goodIn_app (goodIn_of _ (by decide +kernel)) ggX6_isMove_X6_canArgue
set_option maxRecDepth 20000 in
theorem ggX6_isMove_X6_runTrial : GoodIn wsX6_isMove wsX6_runTrial := goodIn_r _ [32, 33, 34, 35, 36, 5, 37, 1, 38, 39, 40, 41, 42, 43, 44, 45, 14, 22, 23, 24, 25, 26, 27, 28, 46, 47, 48, 49, 50, 51, 52, 53, 54, 55, 56, 57, 58, 59, 60, 61, 62, 63, 64, 65, 66, 67, 68, 69, 70, 71, 72, 73, 74, 75, 76, 77, 78, 79] (by decide +kernel) (by decide +kernel)
set_option maxRecDepth 20000 in
theorem gX6_isMove_X6_runTrial : GoodIn wsX6_isMove (wsV RX6 146 RX6 yX6_runTrial wsX6_runTrial) := goodIn_app (goodIn_of _ (by decide +kernel)) ggX6_isMove_X6_runTrial
theorem dX6_isMove_0 : decode cX6_isMove 0 = .ok (.aload_n 0, 1) := by decide +kernel
theorem dX6_isMove_1 : decode cX6_isMove 1 = .ok (.invokevirtual 140, 3) := by decide +kernel
theorem dX6_isMove_4 : decode cX6_isMove 4 = .ok (.iconst 0, 1) := by decide +kernel
theorem dX6_isMove_5 : decode cX6_isMove 5 = .ok (.istore 4, 2) := by decide +kernel
theorem dX6_isMove_7 : decode cX6_isMove 7 = .ok (.iconst 0, 1) := by decide +kernel
theorem dX6_isMove_8 : decode cX6_isMove 8 = .ok (.istore 5, 2) := by decide +kernel
theorem dX6_isMove_10 : decode cX6_isMove 10 = .ok (.iload 5, 2) := by decide +kernel
theorem dX6_isMove_12 : decode cX6_isMove 12 = .ok (.iload_n 1, 1) := by decide +kernel
theorem dX6_isMove_13 : decode cX6_isMove 13 = .ok (.if_icmp .ge 73, 3) := by decide +kernel
theorem dX6_isMove_16 : decode cX6_isMove 16 = .ok (.iload_n 2, 1) := by decide +kernel
theorem dX6_isMove_17 : decode cX6_isMove 17 = .ok (.iload_n 1, 1) := by decide +kernel
theorem dX6_isMove_18 : decode cX6_isMove 18 = .ok (.iconst 1, 1) := by decide +kernel
theorem dX6_isMove_19 : decode cX6_isMove 19 = .ok (.isub, 1) := by decide +kernel
theorem dX6_isMove_20 : decode cX6_isMove 20 = .ok (.iload 5, 2) := by decide +kernel
theorem dX6_isMove_22 : decode cX6_isMove 22 = .ok (.isub, 1) := by decide +kernel
theorem dX6_isMove_23 : decode cX6_isMove 23 = .ok (.invokestatic 149, 3) := by decide +kernel
theorem dX6_isMove_26 : decode cX6_isMove 26 = .ok (.idiv, 1) := by decide +kernel
theorem dX6_isMove_27 : decode cX6_isMove 27 = .ok (.bipush 10, 2) := by decide +kernel
theorem dX6_isMove_29 : decode cX6_isMove 29 = .ok (.irem, 1) := by decide +kernel
theorem dX6_isMove_30 : decode cX6_isMove 30 = .ok (.iconst 1, 1) := by decide +kernel
theorem dX6_isMove_31 : decode cX6_isMove 31 = .ok (.isub, 1) := by decide +kernel
theorem dX6_isMove_32 : decode cX6_isMove 32 = .ok (.istore 6, 2) := by decide +kernel
theorem dX6_isMove_34 : decode cX6_isMove 34 = .ok (.aload_n 0, 1) := by decide +kernel
theorem dX6_isMove_35 : decode cX6_isMove 35 = .ok (.iload 6, 2) := by decide +kernel
theorem dX6_isMove_37 : decode cX6_isMove 37 = .ok (.invokevirtual 118, 3) := by decide +kernel
theorem dX6_isMove_40 : decode cX6_isMove 40 = .ok (.ifCond .eq 20, 3) := by decide +kernel
theorem dX6_isMove_43 : decode cX6_isMove 43 = .ok (.iload 6, 2) := by decide +kernel
theorem dX6_isMove_45 : decode cX6_isMove 45 = .ok (.iload 4, 2) := by decide +kernel
theorem dX6_isMove_47 : decode cX6_isMove 47 = .ok (.if_icmp .lt 13, 3) := by decide +kernel
theorem dX6_isMove_50 : decode cX6_isMove 50 = .ok (.aload_n 0, 1) := by decide +kernel
theorem dX6_isMove_51 : decode cX6_isMove 51 = .ok (.iconst 1, 1) := by decide +kernel
theorem dX6_isMove_52 : decode cX6_isMove 52 = .ok (.iload 6, 2) := by decide +kernel
theorem dX6_isMove_54 : decode cX6_isMove 54 = .ok (.invokevirtual 131, 3) := by decide +kernel
theorem dX6_isMove_57 : decode cX6_isMove 57 = .ok (.ifCond .ne 5, 3) := by decide +kernel
theorem dX6_isMove_60 : decode cX6_isMove 60 = .ok (.iconst 0, 1) := by decide +kernel
theorem dX6_isMove_61 : decode cX6_isMove 61 = .ok (.ireturn, 1) := by decide +kernel
theorem dX6_isMove_62 : decode cX6_isMove 62 = .ok (.aload_n 0, 1) := by decide +kernel
theorem dX6_isMove_63 : decode cX6_isMove 63 = .ok (.getfield 16, 3) := by decide +kernel
theorem dX6_isMove_66 : decode cX6_isMove 66 = .ok (.bipush 18, 2) := by decide +kernel
theorem dX6_isMove_68 : decode cX6_isMove 68 = .ok (.iload 6, 2) := by decide +kernel
theorem dX6_isMove_70 : decode cX6_isMove 70 = .ok (.iadd, 1) := by decide +kernel
theorem dX6_isMove_71 : decode cX6_isMove 71 = .ok (.dup2, 1) := by decide +kernel
theorem dX6_isMove_72 : decode cX6_isMove 72 = .ok (.iaload, 1) := by decide +kernel
theorem dX6_isMove_73 : decode cX6_isMove 73 = .ok (.iconst 1, 1) := by decide +kernel
theorem dX6_isMove_74 : decode cX6_isMove 74 = .ok (.isub, 1) := by decide +kernel
theorem dX6_isMove_75 : decode cX6_isMove 75 = .ok (.iastore, 1) := by decide +kernel
theorem dX6_isMove_76 : decode cX6_isMove 76 = .ok (.iload 6, 2) := by decide +kernel
theorem dX6_isMove_78 : decode cX6_isMove 78 = .ok (.istore 4, 2) := by decide +kernel
theorem dX6_isMove_80 : decode cX6_isMove 80 = .ok (.iinc 5 1, 3) := by decide +kernel
theorem dX6_isMove_83 : decode cX6_isMove 83 = .ok (.goto (-73), 3) := by decide +kernel
theorem dX6_isMove_86 : decode cX6_isMove 86 = .ok (.aload_n 0, 1) := by decide +kernel
theorem dX6_isMove_87 : decode cX6_isMove 87 = .ok (.invokevirtual 146, 3) := by decide +kernel
theorem dX6_isMove_90 : decode cX6_isMove 90 = .ok (.iload_n 3, 1) := by decide +kernel
theorem dX6_isMove_91 : decode cX6_isMove 91 = .ok (.if_icmp .ne 7, 3) := by decide +kernel
theorem dX6_isMove_94 : decode cX6_isMove 94 = .ok (.iconst 1, 1) := by decide +kernel
theorem dX6_isMove_95 : decode cX6_isMove 95 = .ok (.goto 4, 3) := by decide +kernel
theorem dX6_isMove_98 : decode cX6_isMove 98 = .ok (.iconst 0, 1) := by decide +kernel
theorem dX6_isMove_99 : decode cX6_isMove 99 = .ok (.ireturn, 1) := by decide +kernel
set_option maxRecDepth 20000 in
theorem ggX6_toMove_X6_in : GoodIn wsX6_toMove wsX6_in := goodIn_r _ [4] (by decide +kernel) (by decide +kernel)
set_option maxRecDepth 20000 in
theorem gX6_toMove_X6_in : GoodIn wsX6_toMove (va_wsS RX6 53 yX6_in wsX6_in) := goodIn_app (goodIn_of _ (by decide +kernel)) ggX6_toMove_X6_in
set_option maxRecDepth 20000 in
theorem ggX6_toMove_X6_tenTo : GoodIn wsX6_toMove wsX6_tenTo := goodIn_r _ [7] (by decide +kernel) (by decide +kernel)
set_option maxRecDepth 20000 in
theorem gX6_toMove_X6_tenTo : GoodIn wsX6_toMove (va_wsS RX6 149 yX6_tenTo wsX6_tenTo) := goodIn_app (goodIn_of _ (by decide +kernel)) ggX6_toMove_X6_tenTo
set_option maxRecDepth 20000 in
theorem ggX6_toMove_X6_isMove : GoodIn wsX6_toMove wsX6_isMove := goodIn_r _ [11, 12, 13, 14, 15, 3, 16, 5, 6, 7, 17, 18, 19, 20, 21, 1, 2, 4, 22, 23, 24, 25, 26, 27, 28, 29, 30, 31, 32, 33, 34, 35, 36, 37, 38, 39, 40, 41, 42, 43, 44, 45, 46, 47, 48, 49, 50, 51, 52, 53, 54, 55, 56, 57, 58, 59, 60, 61, 62, 63, 64, 65, 66, 67, 68, 69, 70, 71, 72, 73, 74, 75, 76, 77, 78, 79, 80, 81, 82, 83] (by decide +kernel) (by decide +kernel)
set_option maxRecDepth 20000 in
theorem gX6_toMove_X6_isMove : GoodIn wsX6_toMove (wsV RX6 152 RX6 yX6_isMove wsX6_isMove) := goodIn_app (goodIn_of _ (by decide +kernel)) ggX6_toMove_X6_isMove
theorem dX6_toMove_0 : decode cX6_toMove 0 = .ok (.iload_n 1, 1) := by decide +kernel
theorem dX6_toMove_1 : decode cX6_toMove 1 = .ok (.i2l, 1) := by decide +kernel
theorem dX6_toMove_2 : decode cX6_toMove 2 = .ok (.lconst 0, 1) := by decide +kernel
theorem dX6_toMove_3 : decode cX6_toMove 3 = .ok (.lconst 1, 1) := by decide +kernel
theorem dX6_toMove_4 : decode cX6_toMove 4 = .ok (.invokestatic 53, 3) := by decide +kernel
theorem dX6_toMove_7 : decode cX6_toMove 7 = .ok (.ifCond .ne 6, 3) := by decide +kernel
theorem dX6_toMove_10 : decode cX6_toMove 10 = .ok (.bipush (-2), 2) := by decide +kernel
theorem dX6_toMove_12 : decode cX6_toMove 12 = .ok (.ireturn, 1) := by decide +kernel
theorem dX6_toMove_13 : decode cX6_toMove 13 = .ok (.iconst 0, 1) := by decide +kernel
theorem dX6_toMove_14 : decode cX6_toMove 14 = .ok (.istore_n 3, 1) := by decide +kernel
theorem dX6_toMove_15 : decode cX6_toMove 15 = .ok (.iload_n 3, 1) := by decide +kernel
theorem dX6_toMove_16 : decode cX6_toMove 16 = .ok (.iconst 4, 1) := by decide +kernel
theorem dX6_toMove_17 : decode cX6_toMove 17 = .ok (.if_icmp .ge 49, 3) := by decide +kernel
theorem dX6_toMove_20 : decode cX6_toMove 20 = .ok (.iconst 0, 1) := by decide +kernel
theorem dX6_toMove_21 : decode cX6_toMove 21 = .ok (.istore 4, 2) := by decide +kernel
theorem dX6_toMove_23 : decode cX6_toMove 23 = .ok (.iload 4, 2) := by decide +kernel
theorem dX6_toMove_25 : decode cX6_toMove 25 = .ok (.iload_n 3, 1) := by decide +kernel
theorem dX6_toMove_26 : decode cX6_toMove 26 = .ok (.invokestatic 149, 3) := by decide +kernel
theorem dX6_toMove_29 : decode cX6_toMove 29 = .ok (.if_icmp .ge 31, 3) := by decide +kernel
theorem dX6_toMove_32 : decode cX6_toMove 32 = .ok (.aload_n 0, 1) := by decide +kernel
theorem dX6_toMove_33 : decode cX6_toMove 33 = .ok (.iload_n 3, 1) := by decide +kernel
theorem dX6_toMove_34 : decode cX6_toMove 34 = .ok (.iload 4, 2) := by decide +kernel
theorem dX6_toMove_36 : decode cX6_toMove 36 = .ok (.iload_n 1, 1) := by decide +kernel
theorem dX6_toMove_37 : decode cX6_toMove 37 = .ok (.invokevirtual 152, 3) := by decide +kernel
theorem dX6_toMove_40 : decode cX6_toMove 40 = .ok (.ifCond .eq 14, 3) := by decide +kernel
theorem dX6_toMove_43 : decode cX6_toMove 43 = .ok (.iload_n 2, 1) := by decide +kernel
theorem dX6_toMove_44 : decode cX6_toMove 44 = .ok (.ifCond .eq 8, 3) := by decide +kernel
theorem dX6_toMove_47 : decode cX6_toMove 47 = .ok (.iload 4, 2) := by decide +kernel
theorem dX6_toMove_49 : decode cX6_toMove 49 = .ok (.goto 4, 3) := by decide +kernel
theorem dX6_toMove_52 : decode cX6_toMove 52 = .ok (.iload_n 3, 1) := by decide +kernel
theorem dX6_toMove_53 : decode cX6_toMove 53 = .ok (.ireturn, 1) := by decide +kernel
theorem dX6_toMove_54 : decode cX6_toMove 54 = .ok (.iinc 4 1, 3) := by decide +kernel
theorem dX6_toMove_57 : decode cX6_toMove 57 = .ok (.goto (-34), 3) := by decide +kernel
theorem dX6_toMove_60 : decode cX6_toMove 60 = .ok (.iinc 3 1, 3) := by decide +kernel
theorem dX6_toMove_63 : decode cX6_toMove 63 = .ok (.goto (-48), 3) := by decide +kernel
theorem dX6_toMove_66 : decode cX6_toMove 66 = .ok (.bipush (-9), 2) := by decide +kernel
theorem dX6_toMove_68 : decode cX6_toMove 68 = .ok (.ireturn, 1) := by decide +kernel
set_option maxRecDepth 20000 in
theorem ggX6_tryThing_X6_passOn : GoodIn wsX6_tryThing wsX6_passOn := goodIn_r _ [6, 1, 7, 8, 9, 10, 5, 11, 12, 13, 14, 15, 16, 17, 18, 19, 20, 21, 22, 23, 24, 25, 26, 27, 28, 29, 30, 31, 32, 52, 53, 54, 55, 56, 57, 58, 59, 60, 61, 62, 63, 64, 65, 66, 67, 68, 69, 70, 71, 72, 73, 74, 75] (by decide +kernel) (by decide +kernel)
set_option maxRecDepth 20000 in
theorem gX6_tryThing_X6_passOn : GoodIn wsX6_tryThing (wsV RX6 128 RX6 yX6_passOn wsX6_passOn) := goodIn_app (goodIn_of _ (by decide +kernel)) ggX6_tryThing_X6_passOn
set_option maxRecDepth 20000 in
theorem ggX6_tryThing_X6_isJuror : GoodIn wsX6_tryThing wsX6_isJuror := goodIn_r _ [36, 7, 37, 38, 5, 39, 52, 53, 54, 55, 56, 57, 58, 59, 60, 61, 62, 63, 64, 65, 66, 67, 68, 69, 70, 71, 72, 73, 74, 75] (by decide +kernel) (by decide +kernel)
set_option maxRecDepth 20000 in
theorem gX6_tryThing_X6_isJuror : GoodIn wsX6_tryThing (wsV RX6 118 RX6 yX6_isJuror wsX6_isJuror) := goodIn_app (goodIn_of _ (by decide +kernel)) ggX6_tryThing_X6_isJuror
set_option maxRecDepth 20000 in
theorem ggX6_tryThing_X6_isThere : GoodIn wsX6_tryThing wsX6_isThere := goodIn_r _ [19, 1, 20, 21, 5, 22, 52, 53, 54, 55, 56, 57, 58, 59, 60, 61, 62, 63, 64, 65, 66, 67, 68, 69, 70, 71, 72, 73, 74, 75] (by decide +kernel) (by decide +kernel)
set_option maxRecDepth 20000 in
theorem gX6_tryThing_X6_isThere : GoodIn wsX6_tryThing (wsV RX6 108 RX6 yX6_isThere wsX6_isThere) := goodIn_app (goodIn_of _ (by decide +kernel)) ggX6_tryThing_X6_isThere
set_option maxRecDepth 20000 in
theorem ggX6_tryThing_X6_canArgue : GoodIn wsX6_tryThing wsX6_canArgue := goodIn_r _ [43, 1, 16, 17, 18, 5, 19, 20, 21, 22, 52, 53, 54, 55, 56, 57, 58, 59, 60, 61, 62, 63, 64, 65, 66, 67, 68, 69, 70, 71, 72, 73, 74, 75] (by decide +kernel) (by decide +kernel)
set_option maxRecDepth 20000 in
theorem gX6_tryThing_X6_canArgue : GoodIn wsX6_tryThing (wsV RX6 131 RX6 yX6_canArgue wsX6_canArgue) := goodIn_app (goodIn_of _ (by decide +kernel)) ggX6_tryThing_X6_canArgue
set_option maxRecDepth 20000 in
theorem ggX6_tryThing_X6_canFeed : GoodIn wsX6_tryThing wsX6_canFeed := goodIn_r _ [47, 1, 16, 17, 18, 5, 19, 20, 21, 22, 52, 53, 54, 55, 56, 57, 58, 59, 60, 61, 62, 63, 64, 65, 66, 67, 68, 69, 70, 71, 72, 73, 74, 75] (by decide +kernel) (by decide +kernel)
set_option maxRecDepth 20000 in
theorem gX6_tryThing_X6_canFeed : GoodIn wsX6_tryThing (wsV RX6 134 RX6 yX6_canFeed wsX6_canFeed) := goodIn_app (goodIn_of _ (by decide +kernel)) ggX6_tryThing_X6_canFeed
set_option maxRecDepth 20000 in
theorem ggX6_tryThing_X6_dieOn : GoodIn wsX6_tryThing wsX6_dieOn := goodIn_r _ [51, 1, 52, 53, 54, 55, 56, 57, 58, 59, 60, 61, 62, 63, 64, 65, 66, 67, 68, 69, 70, 71, 72, 73, 74, 75] (by decide +kernel) (by decide +kernel)
set_option maxRecDepth 20000 in
theorem gX6_tryThing_X6_dieOn : GoodIn wsX6_tryThing (wsV RX6 137 RX6 yX6_dieOn wsX6_dieOn) := goodIn_app (goodIn_of _ (by decide +kernel)) ggX6_tryThing_X6_dieOn
theorem dX6_tryThing_0 : decode cX6_tryThing 0 = .ok (.iload_n 1, 1) := by decide +kernel
theorem dX6_tryThing_1 : decode cX6_tryThing 1 = .ok (.ifCond .ne 15, 3) := by decide +kernel
theorem dX6_tryThing_4 : decode cX6_tryThing 4 = .ok (.iload_n 2, 1) := by decide +kernel
theorem dX6_tryThing_5 : decode cX6_tryThing 5 = .ok (.ifCond .ne 11, 3) := by decide +kernel
theorem dX6_tryThing_8 : decode cX6_tryThing 8 = .ok (.aload_n 0, 1) := by decide +kernel
theorem dX6_tryThing_9 : decode cX6_tryThing 9 = .ok (.iconst 1, 1) := by decide +kernel
theorem dX6_tryThing_10 : decode cX6_tryThing 10 = .ok (.invokevirtual 128, 3) := by decide +kernel
theorem dX6_tryThing_13 : decode cX6_tryThing 13 = .ok (.pop, 1) := by decide +kernel
theorem dX6_tryThing_14 : decode cX6_tryThing 14 = .ok (.iconst 1, 1) := by decide +kernel
theorem dX6_tryThing_15 : decode cX6_tryThing 15 = .ok (.ireturn, 1) := by decide +kernel
theorem dX6_tryThing_16 : decode cX6_tryThing 16 = .ok (.aload_n 0, 1) := by decide +kernel
theorem dX6_tryThing_17 : decode cX6_tryThing 17 = .ok (.iload_n 2, 1) := by decide +kernel
theorem dX6_tryThing_18 : decode cX6_tryThing 18 = .ok (.invokevirtual 118, 3) := by decide +kernel
theorem dX6_tryThing_21 : decode cX6_tryThing 21 = .ok (.ifCond .eq 12, 3) := by decide +kernel
theorem dX6_tryThing_24 : decode cX6_tryThing 24 = .ok (.aload_n 0, 1) := by decide +kernel
theorem dX6_tryThing_25 : decode cX6_tryThing 25 = .ok (.iconst 1, 1) := by decide +kernel
theorem dX6_tryThing_26 : decode cX6_tryThing 26 = .ok (.iload_n 2, 1) := by decide +kernel
theorem dX6_tryThing_27 : decode cX6_tryThing 27 = .ok (.invokevirtual 108, 3) := by decide +kernel
theorem dX6_tryThing_30 : decode cX6_tryThing 30 = .ok (.ifCond .ne 5, 3) := by decide +kernel
theorem dX6_tryThing_33 : decode cX6_tryThing 33 = .ok (.iconst 0, 1) := by decide +kernel
theorem dX6_tryThing_34 : decode cX6_tryThing 34 = .ok (.ireturn, 1) := by decide +kernel
theorem dX6_tryThing_35 : decode cX6_tryThing 35 = .ok (.iload_n 1, 1) := by decide +kernel
theorem dX6_tryThing_36 : decode cX6_tryThing 36 = .ok (.tableswitch 106 1 4 #[32, 62, 83, 91], 32) := by decide +kernel
theorem dX6_tryThing_68 : decode cX6_tryThing 68 = .ok (.aload_n 0, 1) := by decide +kernel
theorem dX6_tryThing_69 : decode cX6_tryThing 69 = .ok (.iconst 1, 1) := by decide +kernel
theorem dX6_tryThing_70 : decode cX6_tryThing 70 = .ok (.iload_n 2, 1) := by decide +kernel
theorem dX6_tryThing_71 : decode cX6_tryThing 71 = .ok (.invokevirtual 131, 3) := by decide +kernel
theorem dX6_tryThing_74 : decode cX6_tryThing 74 = .ok (.istore_n 3, 1) := by decide +kernel
theorem dX6_tryThing_75 : decode cX6_tryThing 75 = .ok (.aload_n 0, 1) := by decide +kernel
theorem dX6_tryThing_76 : decode cX6_tryThing 76 = .ok (.getfield 16, 3) := by decide +kernel
theorem dX6_tryThing_79 : decode cX6_tryThing 79 = .ok (.bipush 18, 2) := by decide +kernel
theorem dX6_tryThing_81 : decode cX6_tryThing 81 = .ok (.iload_n 2, 1) := by decide +kernel
theorem dX6_tryThing_82 : decode cX6_tryThing 82 = .ok (.iadd, 1) := by decide +kernel
theorem dX6_tryThing_83 : decode cX6_tryThing 83 = .ok (.dup2, 1) := by decide +kernel
theorem dX6_tryThing_84 : decode cX6_tryThing 84 = .ok (.iaload, 1) := by decide +kernel
theorem dX6_tryThing_85 : decode cX6_tryThing 85 = .ok (.iload_n 3, 1) := by decide +kernel
theorem dX6_tryThing_86 : decode cX6_tryThing 86 = .ok (.ifCond .eq 7, 3) := by decide +kernel
theorem dX6_tryThing_89 : decode cX6_tryThing 89 = .ok (.iconst 1, 1) := by decide +kernel
theorem dX6_tryThing_90 : decode cX6_tryThing 90 = .ok (.goto 4, 3) := by decide +kernel
theorem dX6_tryThing_93 : decode cX6_tryThing 93 = .ok (.iconst 0, 1) := by decide +kernel
theorem dX6_tryThing_94 : decode cX6_tryThing 94 = .ok (.isub, 1) := by decide +kernel
theorem dX6_tryThing_95 : decode cX6_tryThing 95 = .ok (.iastore, 1) := by decide +kernel
theorem dX6_tryThing_96 : decode cX6_tryThing 96 = .ok (.iload_n 3, 1) := by decide +kernel
theorem dX6_tryThing_97 : decode cX6_tryThing 97 = .ok (.ireturn, 1) := by decide +kernel
theorem dX6_tryThing_98 : decode cX6_tryThing 98 = .ok (.aload_n 0, 1) := by decide +kernel
theorem dX6_tryThing_99 : decode cX6_tryThing 99 = .ok (.iconst 1, 1) := by decide +kernel
theorem dX6_tryThing_100 : decode cX6_tryThing 100 = .ok (.iload_n 2, 1) := by decide +kernel
theorem dX6_tryThing_101 : decode cX6_tryThing 101 = .ok (.invokevirtual 134, 3) := by decide +kernel
theorem dX6_tryThing_104 : decode cX6_tryThing 104 = .ok (.istore 4, 2) := by decide +kernel
theorem dX6_tryThing_106 : decode cX6_tryThing 106 = .ok (.aload_n 0, 1) := by decide +kernel
theorem dX6_tryThing_107 : decode cX6_tryThing 107 = .ok (.getfield 16, 3) := by decide +kernel
theorem dX6_tryThing_110 : decode cX6_tryThing 110 = .ok (.bipush 24, 2) := by decide +kernel
theorem dX6_tryThing_112 : decode cX6_tryThing 112 = .ok (.iload_n 2, 1) := by decide +kernel
theorem dX6_tryThing_113 : decode cX6_tryThing 113 = .ok (.iadd, 1) := by decide +kernel
theorem dX6_tryThing_114 : decode cX6_tryThing 114 = .ok (.iconst 0, 1) := by decide +kernel
theorem dX6_tryThing_115 : decode cX6_tryThing 115 = .ok (.iastore, 1) := by decide +kernel
theorem dX6_tryThing_116 : decode cX6_tryThing 116 = .ok (.iload 4, 2) := by decide +kernel
theorem dX6_tryThing_118 : decode cX6_tryThing 118 = .ok (.ireturn, 1) := by decide +kernel
theorem dX6_tryThing_119 : decode cX6_tryThing 119 = .ok (.aload_n 0, 1) := by decide +kernel
theorem dX6_tryThing_120 : decode cX6_tryThing 120 = .ok (.iconst 1, 1) := by decide +kernel
theorem dX6_tryThing_121 : decode cX6_tryThing 121 = .ok (.iload_n 2, 1) := by decide +kernel
theorem dX6_tryThing_122 : decode cX6_tryThing 122 = .ok (.invokevirtual 137, 3) := by decide +kernel
theorem dX6_tryThing_125 : decode cX6_tryThing 125 = .ok (.iconst 1, 1) := by decide +kernel
theorem dX6_tryThing_126 : decode cX6_tryThing 126 = .ok (.ireturn, 1) := by decide +kernel
theorem dX6_tryThing_127 : decode cX6_tryThing 127 = .ok (.aload_n 0, 1) := by decide +kernel
theorem dX6_tryThing_128 : decode cX6_tryThing 128 = .ok (.getfield 16, 3) := by decide +kernel
theorem dX6_tryThing_131 : decode cX6_tryThing 131 = .ok (.bipush 15, 2) := by decide +kernel
theorem dX6_tryThing_133 : decode cX6_tryThing 133 = .ok (.dup2, 1) := by decide +kernel
theorem dX6_tryThing_134 : decode cX6_tryThing 134 = .ok (.iaload, 1) := by decide +kernel
theorem dX6_tryThing_135 : decode cX6_tryThing 135 = .ok (.iconst 1, 1) := by decide +kernel
theorem dX6_tryThing_136 : decode cX6_tryThing 136 = .ok (.iload_n 2, 1) := by decide +kernel
theorem dX6_tryThing_137 : decode cX6_tryThing 137 = .ok (.ishl, 1) := by decide +kernel
theorem dX6_tryThing_138 : decode cX6_tryThing 138 = .ok (.ixor, 1) := by decide +kernel
theorem dX6_tryThing_139 : decode cX6_tryThing 139 = .ok (.iastore, 1) := by decide +kernel
theorem dX6_tryThing_140 : decode cX6_tryThing 140 = .ok (.iconst 1, 1) := by decide +kernel
theorem dX6_tryThing_141 : decode cX6_tryThing 141 = .ok (.ireturn, 1) := by decide +kernel
theorem dX6_tryThing_142 : decode cX6_tryThing 142 = .ok (.iconst 0, 1) := by decide +kernel
theorem dX6_tryThing_143 : decode cX6_tryThing 143 = .ok (.ireturn, 1) := by decide +kernel
set_option maxRecDepth 20000 in
theorem ggX6_judge_X6_in : GoodIn wsX6_judge wsX6_in := goodIn_r _ [5] (by decide +kernel) (by decide +kernel)
set_option maxRecDepth 20000 in
theorem gX6_judge_X6_in : GoodIn wsX6_judge (va_wsS RX6 53 yX6_in wsX6_in) := goodIn_app (goodIn_of _ (by decide +kernel)) ggX6_judge_X6_in
set_option maxRecDepth 20000 in
theorem ggX6_judge_X6_tenTo : GoodIn wsX6_judge wsX6_tenTo := goodIn_r _ [8] (by decide +kernel) (by decide +kernel)
set_option maxRecDepth 20000 in
theorem gX6_judge_X6_tenTo : GoodIn wsX6_judge (va_wsS RX6 149 yX6_tenTo wsX6_tenTo) := goodIn_app (goodIn_of _ (by decide +kernel)) ggX6_judge_X6_tenTo
set_option maxRecDepth 20000 in
theorem ggX6_judge_X6_layTrial : GoodIn wsX6_judge wsX6_layTrial := goodIn_r _ [12, 13, 64, 65, 66, 67, 68, 69, 70, 71, 72, 73, 74, 75, 76, 77, 78, 79, 80, 81, 82, 83, 84, 85, 86, 87] (by decide +kernel) (by decide +kernel)
set_option maxRecDepth 20000 in
theorem gX6_judge_X6_layTrial : GoodIn wsX6_judge (wsV RX6 140 RX6 yX6_layTrial wsX6_layTrial) := goodIn_app (goodIn_of _ (by decide +kernel)) ggX6_judge_X6_layTrial
set_option maxRecDepth 20000 in
theorem ggX6_judge_X6_tryThing : GoodIn wsX6_judge wsX6_tryThing := goodIn_r _ [17, 13, 18, 19, 20, 4, 21, 22, 23, 24, 25, 26, 27, 28, 29, 30, 31, 32, 33, 34, 35, 36, 37, 38, 39, 40, 41, 42, 43, 44, 45, 46, 47, 48, 49, 50, 51, 2, 3, 5, 52, 53, 54, 55, 56, 57, 58, 59, 60, 61, 62, 63, 64, 65, 66, 67, 68, 69, 70, 71, 72, 73, 74, 75, 76, 77, 78, 79, 80, 81, 82, 83, 84, 85, 86, 87] (by decide +kernel) (by decide +kernel)
set_option maxRecDepth 20000 in
theorem gX6_judge_X6_tryThing : GoodIn wsX6_judge (wsV RX6 158 RX6 yX6_tryThing wsX6_tryThing) := goodIn_app (goodIn_of _ (by decide +kernel)) ggX6_judge_X6_tryThing
theorem dX6_judge_0 : decode cX6_judge 0 = .ok (.iload_n 1, 1) := by decide +kernel
theorem dX6_judge_1 : decode cX6_judge 1 = .ok (.i2l, 1) := by decide +kernel
theorem dX6_judge_2 : decode cX6_judge 2 = .ok (.lconst 1, 1) := by decide +kernel
theorem dX6_judge_3 : decode cX6_judge 3 = .ok (.ldc2_w 156, 3) := by decide +kernel
theorem dX6_judge_6 : decode cX6_judge 6 = .ok (.invokestatic 53, 3) := by decide +kernel
theorem dX6_judge_9 : decode cX6_judge 9 = .ok (.ifCond .eq 21, 3) := by decide +kernel
theorem dX6_judge_12 : decode cX6_judge 12 = .ok (.iload_n 2, 1) := by decide +kernel
theorem dX6_judge_13 : decode cX6_judge 13 = .ok (.i2l, 1) := by decide +kernel
theorem dX6_judge_14 : decode cX6_judge 14 = .ok (.lconst 0, 1) := by decide +kernel
theorem dX6_judge_15 : decode cX6_judge 15 = .ok (.iconst 2, 1) := by decide +kernel
theorem dX6_judge_16 : decode cX6_judge 16 = .ok (.iload_n 1, 1) := by decide +kernel
theorem dX6_judge_17 : decode cX6_judge 17 = .ok (.imul, 1) := by decide +kernel
theorem dX6_judge_18 : decode cX6_judge 18 = .ok (.invokestatic 149, 3) := by decide +kernel
theorem dX6_judge_21 : decode cX6_judge 21 = .ok (.iconst 1, 1) := by decide +kernel
theorem dX6_judge_22 : decode cX6_judge 22 = .ok (.isub, 1) := by decide +kernel
theorem dX6_judge_23 : decode cX6_judge 23 = .ok (.i2l, 1) := by decide +kernel
theorem dX6_judge_24 : decode cX6_judge 24 = .ok (.invokestatic 53, 3) := by decide +kernel
theorem dX6_judge_27 : decode cX6_judge 27 = .ok (.ifCond .ne 6, 3) := by decide +kernel
theorem dX6_judge_30 : decode cX6_judge 30 = .ok (.bipush (-2), 2) := by decide +kernel
theorem dX6_judge_32 : decode cX6_judge 32 = .ok (.ireturn, 1) := by decide +kernel
theorem dX6_judge_33 : decode cX6_judge 33 = .ok (.aload_n 0, 1) := by decide +kernel
theorem dX6_judge_34 : decode cX6_judge 34 = .ok (.invokevirtual 140, 3) := by decide +kernel
theorem dX6_judge_37 : decode cX6_judge 37 = .ok (.iconst 0, 1) := by decide +kernel
theorem dX6_judge_38 : decode cX6_judge 38 = .ok (.istore_n 3, 1) := by decide +kernel
theorem dX6_judge_39 : decode cX6_judge 39 = .ok (.iload_n 3, 1) := by decide +kernel
theorem dX6_judge_40 : decode cX6_judge 40 = .ok (.iload_n 1, 1) := by decide +kernel
theorem dX6_judge_41 : decode cX6_judge 41 = .ok (.if_icmp .ge 45, 3) := by decide +kernel
theorem dX6_judge_44 : decode cX6_judge 44 = .ok (.iload_n 2, 1) := by decide +kernel
theorem dX6_judge_45 : decode cX6_judge 45 = .ok (.iconst 2, 1) := by decide +kernel
theorem dX6_judge_46 : decode cX6_judge 46 = .ok (.iload_n 1, 1) := by decide +kernel
end
section
theorem dX6_judge_47 : decode cX6_judge 47 = .ok (.iconst 1, 1) := by decide +kernel
theorem dX6_judge_48 : decode cX6_judge 48 = .ok (.isub, 1) := by decide +kernel
theorem dX6_judge_49 : decode cX6_judge 49 = .ok (.iload_n 3, 1) := by decide +kernel
theorem dX6_judge_50 : decode cX6_judge 50 = .ok (.isub, 1) := by decide +kernel
theorem dX6_judge_51 : decode cX6_judge 51 = .ok (.imul, 1) := by decide +kernel
theorem dX6_judge_52 : decode cX6_judge 52 = .ok (.invokestatic 149, 3) := by decide +kernel
theorem dX6_judge_55 : decode cX6_judge 55 = .ok (.idiv, 1) := by decide +kernel
theorem dX6_judge_56 : decode cX6_judge 56 = .ok (.bipush 100, 2) := by decide +kernel
theorem dX6_judge_58 : decode cX6_judge 58 = .ok (.irem, 1) := by decide +kernel
theorem dX6_judge_59 : decode cX6_judge 59 = .ok (.istore 4, 2) := by decide +kernel
theorem dX6_judge_61 : decode cX6_judge 61 = .ok (.aload_n 0, 1) := by decide +kernel
theorem dX6_judge_62 : decode cX6_judge 62 = .ok (.iload 4, 2) := by decide +kernel
theorem dX6_judge_64 : decode cX6_judge 64 = .ok (.bipush 10, 2) := by decide +kernel
theorem dX6_judge_66 : decode cX6_judge 66 = .ok (.idiv, 1) := by decide +kernel
theorem dX6_judge_67 : decode cX6_judge 67 = .ok (.iload 4, 2) := by decide +kernel
theorem dX6_judge_69 : decode cX6_judge 69 = .ok (.bipush 10, 2) := by decide +kernel
theorem dX6_judge_71 : decode cX6_judge 71 = .ok (.irem, 1) := by decide +kernel
theorem dX6_judge_72 : decode cX6_judge 72 = .ok (.invokevirtual 158, 3) := by decide +kernel
theorem dX6_judge_75 : decode cX6_judge 75 = .ok (.ifCond .ne 5, 3) := by decide +kernel
theorem dX6_judge_78 : decode cX6_judge 78 = .ok (.iload_n 3, 1) := by decide +kernel
theorem dX6_judge_79 : decode cX6_judge 79 = .ok (.ireturn, 1) := by decide +kernel
theorem dX6_judge_80 : decode cX6_judge 80 = .ok (.iinc 3 1, 3) := by decide +kernel
theorem dX6_judge_83 : decode cX6_judge 83 = .ok (.goto (-44), 3) := by decide +kernel
theorem dX6_judge_86 : decode cX6_judge 86 = .ok (.bipush (-9), 2) := by decide +kernel
theorem dX6_judge_88 : decode cX6_judge 88 = .ok (.ireturn, 1) := by decide +kernel
set_option maxRecDepth 20000 in
theorem ggX6_see_X6_isJuror : GoodIn wsX6_see wsX6_isJuror := goodIn_r _ [10, 11, 12, 13, 9, 14, 15, 16, 17, 18, 19, 20, 21, 22, 23, 24, 25, 26, 27, 28, 29, 30, 31, 32, 33, 34, 35, 36, 37, 38] (by decide +kernel) (by decide +kernel)
set_option maxRecDepth 20000 in
theorem gX6_see_X6_isJuror : GoodIn wsX6_see (wsV RX6 118 RX6 yX6_isJuror wsX6_isJuror) := goodIn_app (goodIn_of _ (by decide +kernel)) ggX6_see_X6_isJuror
set_option maxRecDepth 20000 in
theorem ggX6_see_X6_in : GoodIn wsX6_see wsX6_in := goodIn_r _ [14] (by decide +kernel) (by decide +kernel)
set_option maxRecDepth 20000 in
theorem gX6_see_X6_in : GoodIn wsX6_see (va_wsS RX6 53 yX6_in wsX6_in) := goodIn_app (goodIn_of _ (by decide +kernel)) ggX6_see_X6_in
theorem dX6_see_0 : decode cX6_see 0 = .ok (.aload_n 0, 1) := by decide +kernel
theorem dX6_see_1 : decode cX6_see 1 = .ok (.iload_n 1, 1) := by decide +kernel
theorem dX6_see_2 : decode cX6_see 2 = .ok (.invokevirtual 118, 3) := by decide +kernel
theorem dX6_see_5 : decode cX6_see 5 = .ok (.ifCond .ne 5, 3) := by decide +kernel
theorem dX6_see_8 : decode cX6_see 8 = .ok (.iconst (-1), 1) := by decide +kernel
theorem dX6_see_9 : decode cX6_see 9 = .ok (.ireturn, 1) := by decide +kernel
theorem dX6_see_10 : decode cX6_see 10 = .ok (.iload_n 2, 1) := by decide +kernel
theorem dX6_see_11 : decode cX6_see 11 = .ok (.i2l, 1) := by decide +kernel
theorem dX6_see_12 : decode cX6_see 12 = .ok (.lconst 0, 1) := by decide +kernel
theorem dX6_see_13 : decode cX6_see 13 = .ok (.ldc2_w 66, 3) := by decide +kernel
theorem dX6_see_16 : decode cX6_see 16 = .ok (.invokestatic 53, 3) := by decide +kernel
theorem dX6_see_19 : decode cX6_see 19 = .ok (.ifCond .eq 13, 3) := by decide +kernel
theorem dX6_see_22 : decode cX6_see 22 = .ok (.iload_n 3, 1) := by decide +kernel
theorem dX6_see_23 : decode cX6_see 23 = .ok (.i2l, 1) := by decide +kernel
theorem dX6_see_24 : decode cX6_see 24 = .ok (.lconst 0, 1) := by decide +kernel
theorem dX6_see_25 : decode cX6_see 25 = .ok (.lconst 1, 1) := by decide +kernel
theorem dX6_see_26 : decode cX6_see 26 = .ok (.invokestatic 53, 3) := by decide +kernel
theorem dX6_see_29 : decode cX6_see 29 = .ok (.ifCond .ne 6, 3) := by decide +kernel
theorem dX6_see_32 : decode cX6_see 32 = .ok (.bipush (-2), 2) := by decide +kernel
theorem dX6_see_34 : decode cX6_see 34 = .ok (.ireturn, 1) := by decide +kernel
theorem dX6_see_35 : decode cX6_see 35 = .ok (.aload_n 0, 1) := by decide +kernel
theorem dX6_see_36 : decode cX6_see 36 = .ok (.getfield 161, 3) := by decide +kernel
theorem dX6_see_39 : decode cX6_see 39 = .ok (.bipush 6, 2) := by decide +kernel
theorem dX6_see_41 : decode cX6_see 41 = .ok (.if_icmp .ne 6, 3) := by decide +kernel
theorem dX6_see_44 : decode cX6_see 44 = .ok (.bipush (-4), 2) := by decide +kernel
theorem dX6_see_46 : decode cX6_see 46 = .ok (.ireturn, 1) := by decide +kernel
theorem dX6_see_47 : decode cX6_see 47 = .ok (.aload_n 0, 1) := by decide +kernel
theorem dX6_see_48 : decode cX6_see 48 = .ok (.getfield 31, 3) := by decide +kernel
theorem dX6_see_51 : decode cX6_see 51 = .ok (.aload_n 0, 1) := by decide +kernel
theorem dX6_see_52 : decode cX6_see 52 = .ok (.getfield 161, 3) := by decide +kernel
theorem dX6_see_55 : decode cX6_see 55 = .ok (.iload_n 1, 1) := by decide +kernel
theorem dX6_see_56 : decode cX6_see 56 = .ok (.iastore, 1) := by decide +kernel
theorem dX6_see_57 : decode cX6_see 57 = .ok (.aload_n 0, 1) := by decide +kernel
theorem dX6_see_58 : decode cX6_see 58 = .ok (.getfield 34, 3) := by decide +kernel
theorem dX6_see_61 : decode cX6_see 61 = .ok (.aload_n 0, 1) := by decide +kernel
theorem dX6_see_62 : decode cX6_see 62 = .ok (.getfield 161, 3) := by decide +kernel
theorem dX6_see_65 : decode cX6_see 65 = .ok (.iload_n 2, 1) := by decide +kernel
theorem dX6_see_66 : decode cX6_see 66 = .ok (.iastore, 1) := by decide +kernel
theorem dX6_see_67 : decode cX6_see 67 = .ok (.aload_n 0, 1) := by decide +kernel
theorem dX6_see_68 : decode cX6_see 68 = .ok (.getfield 37, 3) := by decide +kernel
theorem dX6_see_71 : decode cX6_see 71 = .ok (.aload_n 0, 1) := by decide +kernel
theorem dX6_see_72 : decode cX6_see 72 = .ok (.getfield 161, 3) := by decide +kernel
theorem dX6_see_75 : decode cX6_see 75 = .ok (.iload_n 3, 1) := by decide +kernel
theorem dX6_see_76 : decode cX6_see 76 = .ok (.iastore, 1) := by decide +kernel
theorem dX6_see_77 : decode cX6_see 77 = .ok (.aload_n 0, 1) := by decide +kernel
theorem dX6_see_78 : decode cX6_see 78 = .ok (.dup, 1) := by decide +kernel
theorem dX6_see_79 : decode cX6_see 79 = .ok (.getfield 161, 3) := by decide +kernel
theorem dX6_see_82 : decode cX6_see 82 = .ok (.iconst 1, 1) := by decide +kernel
theorem dX6_see_83 : decode cX6_see 83 = .ok (.iadd, 1) := by decide +kernel
theorem dX6_see_84 : decode cX6_see 84 = .ok (.putfield 161, 3) := by decide +kernel
theorem dX6_see_87 : decode cX6_see 87 = .ok (.aload_n 0, 1) := by decide +kernel
theorem dX6_see_88 : decode cX6_see 88 = .ok (.getfield 161, 3) := by decide +kernel
theorem dX6_see_91 : decode cX6_see 91 = .ok (.ireturn, 1) := by decide +kernel
theorem dX6_unsee_0 : decode cX6_unsee 0 = .ok (.aload_n 0, 1) := by decide +kernel
theorem dX6_unsee_1 : decode cX6_unsee 1 = .ok (.getfield 161, 3) := by decide +kernel
theorem dX6_unsee_4 : decode cX6_unsee 4 = .ok (.istore_n 1, 1) := by decide +kernel
theorem dX6_unsee_5 : decode cX6_unsee 5 = .ok (.aload_n 0, 1) := by decide +kernel
theorem dX6_unsee_6 : decode cX6_unsee 6 = .ok (.iconst 0, 1) := by decide +kernel
theorem dX6_unsee_7 : decode cX6_unsee 7 = .ok (.putfield 161, 3) := by decide +kernel
theorem dX6_unsee_10 : decode cX6_unsee 10 = .ok (.iload_n 1, 1) := by decide +kernel
theorem dX6_unsee_11 : decode cX6_unsee 11 = .ok (.ireturn, 1) := by decide +kernel
set_option maxRecDepth 20000 in
theorem ggX6_isSeen_X6_isJuror : GoodIn wsX6_isSeen wsX6_isJuror := goodIn_r _ [10, 11, 12, 13, 9, 14, 22, 23, 24, 25, 26, 27, 28, 29, 30, 31, 32, 33, 34, 35, 36, 37, 38, 39, 40, 41, 42, 43, 44, 45] (by decide +kernel) (by decide +kernel)
set_option maxRecDepth 20000 in
theorem gX6_isSeen_X6_isJuror : GoodIn wsX6_isSeen (wsV RX6 118 RX6 yX6_isJuror wsX6_isJuror) := goodIn_app (goodIn_of _ (by decide +kernel)) ggX6_isSeen_X6_isJuror
set_option maxRecDepth 20000 in
theorem ggX6_isSeen_X6_isThere : GoodIn wsX6_isSeen wsX6_isThere := goodIn_r _ [18, 4, 19, 20, 9, 21, 22, 23, 24, 25, 26, 27, 28, 29, 30, 31, 32, 33, 34, 35, 36, 37, 38, 39, 40, 41, 42, 43, 44, 45] (by decide +kernel) (by decide +kernel)
set_option maxRecDepth 20000 in
theorem gX6_isSeen_X6_isThere : GoodIn wsX6_isSeen (wsV RX6 108 RX6 yX6_isThere wsX6_isThere) := goodIn_app (goodIn_of _ (by decide +kernel)) ggX6_isSeen_X6_isThere
theorem dX6_isSeen_0 : decode cX6_isSeen 0 = .ok (.iconst 1, 1) := by decide +kernel
theorem dX6_isSeen_1 : decode cX6_isSeen 1 = .ok (.istore_n 2, 1) := by decide +kernel
theorem dX6_isSeen_2 : decode cX6_isSeen 2 = .ok (.iconst 0, 1) := by decide +kernel
theorem dX6_isSeen_3 : decode cX6_isSeen 3 = .ok (.istore_n 3, 1) := by decide +kernel
theorem dX6_isSeen_4 : decode cX6_isSeen 4 = .ok (.iload_n 3, 1) := by decide +kernel
theorem dX6_isSeen_5 : decode cX6_isSeen 5 = .ok (.aload_n 0, 1) := by decide +kernel
theorem dX6_isSeen_6 : decode cX6_isSeen 6 = .ok (.getfield 161, 3) := by decide +kernel
theorem dX6_isSeen_9 : decode cX6_isSeen 9 = .ok (.if_icmp .ge 93, 3) := by decide +kernel
theorem dX6_isSeen_12 : decode cX6_isSeen 12 = .ok (.aload_n 0, 1) := by decide +kernel
theorem dX6_isSeen_13 : decode cX6_isSeen 13 = .ok (.getfield 34, 3) := by decide +kernel
theorem dX6_isSeen_16 : decode cX6_isSeen 16 = .ok (.iload_n 3, 1) := by decide +kernel
theorem dX6_isSeen_17 : decode cX6_isSeen 17 = .ok (.iaload, 1) := by decide +kernel
theorem dX6_isSeen_18 : decode cX6_isSeen 18 = .ok (.iload_n 1, 1) := by decide +kernel
theorem dX6_isSeen_19 : decode cX6_isSeen 19 = .ok (.if_icmp .ne 34, 3) := by decide +kernel
theorem dX6_isSeen_22 : decode cX6_isSeen 22 = .ok (.aload_n 0, 1) := by decide +kernel
theorem dX6_isSeen_23 : decode cX6_isSeen 23 = .ok (.aload_n 0, 1) := by decide +kernel
theorem dX6_isSeen_24 : decode cX6_isSeen 24 = .ok (.getfield 31, 3) := by decide +kernel
theorem dX6_isSeen_27 : decode cX6_isSeen 27 = .ok (.iload_n 3, 1) := by decide +kernel
theorem dX6_isSeen_28 : decode cX6_isSeen 28 = .ok (.iaload, 1) := by decide +kernel
theorem dX6_isSeen_29 : decode cX6_isSeen 29 = .ok (.invokevirtual 118, 3) := by decide +kernel
theorem dX6_isSeen_32 : decode cX6_isSeen 32 = .ok (.ifCond .eq 21, 3) := by decide +kernel
theorem dX6_isSeen_35 : decode cX6_isSeen 35 = .ok (.aload_n 0, 1) := by decide +kernel
theorem dX6_isSeen_36 : decode cX6_isSeen 36 = .ok (.iconst 1, 1) := by decide +kernel
theorem dX6_isSeen_37 : decode cX6_isSeen 37 = .ok (.aload_n 0, 1) := by decide +kernel
theorem dX6_isSeen_38 : decode cX6_isSeen 38 = .ok (.getfield 31, 3) := by decide +kernel
theorem dX6_isSeen_41 : decode cX6_isSeen 41 = .ok (.iload_n 3, 1) := by decide +kernel
theorem dX6_isSeen_42 : decode cX6_isSeen 42 = .ok (.iaload, 1) := by decide +kernel
theorem dX6_isSeen_43 : decode cX6_isSeen 43 = .ok (.invokevirtual 108, 3) := by decide +kernel
theorem dX6_isSeen_46 : decode cX6_isSeen 46 = .ok (.ifCond .eq 7, 3) := by decide +kernel
theorem dX6_isSeen_49 : decode cX6_isSeen 49 = .ok (.iconst 1, 1) := by decide +kernel
theorem dX6_isSeen_50 : decode cX6_isSeen 50 = .ok (.goto 4, 3) := by decide +kernel
theorem dX6_isSeen_53 : decode cX6_isSeen 53 = .ok (.iconst 0, 1) := by decide +kernel
theorem dX6_isSeen_54 : decode cX6_isSeen 54 = .ok (.istore 4, 2) := by decide +kernel
theorem dX6_isSeen_56 : decode cX6_isSeen 56 = .ok (.iload_n 2, 1) := by decide +kernel
theorem dX6_isSeen_57 : decode cX6_isSeen 57 = .ok (.ifCond .eq 37, 3) := by decide +kernel
theorem dX6_isSeen_60 : decode cX6_isSeen 60 = .ok (.iload 4, 2) := by decide +kernel
theorem dX6_isSeen_62 : decode cX6_isSeen 62 = .ok (.ifCond .eq 28, 3) := by decide +kernel
theorem dX6_isSeen_65 : decode cX6_isSeen 65 = .ok (.aload_n 0, 1) := by decide +kernel
theorem dX6_isSeen_66 : decode cX6_isSeen 66 = .ok (.getfield 16, 3) := by decide +kernel
theorem dX6_isSeen_69 : decode cX6_isSeen 69 = .ok (.bipush 15, 2) := by decide +kernel
theorem dX6_isSeen_71 : decode cX6_isSeen 71 = .ok (.iaload, 1) := by decide +kernel
theorem dX6_isSeen_72 : decode cX6_isSeen 72 = .ok (.aload_n 0, 1) := by decide +kernel
theorem dX6_isSeen_73 : decode cX6_isSeen 73 = .ok (.getfield 31, 3) := by decide +kernel
theorem dX6_isSeen_76 : decode cX6_isSeen 76 = .ok (.iload_n 3, 1) := by decide +kernel
theorem dX6_isSeen_77 : decode cX6_isSeen 77 = .ok (.iaload, 1) := by decide +kernel
theorem dX6_isSeen_78 : decode cX6_isSeen 78 = .ok (.ishr, 1) := by decide +kernel
theorem dX6_isSeen_79 : decode cX6_isSeen 79 = .ok (.iconst 1, 1) := by decide +kernel
theorem dX6_isSeen_80 : decode cX6_isSeen 80 = .ok (.iand, 1) := by decide +kernel
theorem dX6_isSeen_81 : decode cX6_isSeen 81 = .ok (.aload_n 0, 1) := by decide +kernel
theorem dX6_isSeen_82 : decode cX6_isSeen 82 = .ok (.getfield 37, 3) := by decide +kernel
theorem dX6_isSeen_85 : decode cX6_isSeen 85 = .ok (.iload_n 3, 1) := by decide +kernel
theorem dX6_isSeen_86 : decode cX6_isSeen 86 = .ok (.iaload, 1) := by decide +kernel
theorem dX6_isSeen_87 : decode cX6_isSeen 87 = .ok (.if_icmp .ne 7, 3) := by decide +kernel
theorem dX6_isSeen_90 : decode cX6_isSeen 90 = .ok (.iconst 1, 1) := by decide +kernel
theorem dX6_isSeen_91 : decode cX6_isSeen 91 = .ok (.goto 4, 3) := by decide +kernel
theorem dX6_isSeen_94 : decode cX6_isSeen 94 = .ok (.iconst 0, 1) := by decide +kernel
theorem dX6_isSeen_95 : decode cX6_isSeen 95 = .ok (.istore_n 2, 1) := by decide +kernel
theorem dX6_isSeen_96 : decode cX6_isSeen 96 = .ok (.iinc 3 1, 3) := by decide +kernel
theorem dX6_isSeen_99 : decode cX6_isSeen 99 = .ok (.goto (-95), 3) := by decide +kernel
theorem dX6_isSeen_102 : decode cX6_isSeen 102 = .ok (.iload_n 2, 1) := by decide +kernel
theorem dX6_isSeen_103 : decode cX6_isSeen 103 = .ok (.ireturn, 1) := by decide +kernel
set_option maxRecDepth 20000 in
theorem ggX6_layYes_X6_layTrial : GoodIn wsX6_layYes wsX6_layTrial := goodIn_r _ [6, 1, 7, 8, 9, 10, 11, 12, 13, 14, 15, 16, 17, 18, 19, 20, 21, 22, 23, 24, 25, 26, 27, 28, 29, 30] (by decide +kernel) (by decide +kernel)
set_option maxRecDepth 20000 in
theorem gX6_layYes_X6_layTrial : GoodIn wsX6_layYes (wsV RX6 140 RX6 yX6_layTrial wsX6_layTrial) := goodIn_app (goodIn_of _ (by decide +kernel)) ggX6_layYes_X6_layTrial
theorem dX6_layYes_0 : decode cX6_layYes 0 = .ok (.aload_n 0, 1) := by decide +kernel
theorem dX6_layYes_1 : decode cX6_layYes 1 = .ok (.invokevirtual 140, 3) := by decide +kernel
theorem dX6_layYes_4 : decode cX6_layYes 4 = .ok (.aload_n 0, 1) := by decide +kernel
theorem dX6_layYes_5 : decode cX6_layYes 5 = .ok (.getfield 16, 3) := by decide +kernel
theorem dX6_layYes_8 : decode cX6_layYes 8 = .ok (.bipush 15, 2) := by decide +kernel
theorem dX6_layYes_10 : decode cX6_layYes 10 = .ok (.aload_n 0, 1) := by decide +kernel
theorem dX6_layYes_11 : decode cX6_layYes 11 = .ok (.getfield 16, 3) := by decide +kernel
theorem dX6_layYes_14 : decode cX6_layYes 14 = .ok (.iconst 0, 1) := by decide +kernel
theorem dX6_layYes_15 : decode cX6_layYes 15 = .ok (.iaload, 1) := by decide +kernel
theorem dX6_layYes_16 : decode cX6_layYes 16 = .ok (.aload_n 0, 1) := by decide +kernel
theorem dX6_layYes_17 : decode cX6_layYes 17 = .ok (.getfield 16, 3) := by decide +kernel
theorem dX6_layYes_20 : decode cX6_layYes 20 = .ok (.iconst 1, 1) := by decide +kernel
theorem dX6_layYes_21 : decode cX6_layYes 21 = .ok (.iaload, 1) := by decide +kernel
theorem dX6_layYes_22 : decode cX6_layYes 22 = .ok (.iconst (-1), 1) := by decide +kernel
theorem dX6_layYes_23 : decode cX6_layYes 23 = .ok (.ixor, 1) := by decide +kernel
theorem dX6_layYes_24 : decode cX6_layYes 24 = .ok (.iand, 1) := by decide +kernel
theorem dX6_layYes_25 : decode cX6_layYes 25 = .ok (.iload_n 1, 1) := by decide +kernel
theorem dX6_layYes_26 : decode cX6_layYes 26 = .ok (.ior, 1) := by decide +kernel
theorem dX6_layYes_27 : decode cX6_layYes 27 = .ok (.iastore, 1) := by decide +kernel
theorem dX6_layYes_28 : decode cX6_layYes 28 = .ok (.return_, 1) := by decide +kernel
set_option maxRecDepth 20000 in
theorem ggX6_mayBe_X6_layYes : GoodIn wsX6_mayBe wsX6_layYes := goodIn_r _ [5, 6, 7, 8, 9, 4, 10, 56, 57, 58, 59, 60, 61, 62, 63, 64, 65, 66, 67, 68, 69, 70, 71, 72, 73, 74, 75, 76, 77, 78, 79] (by decide +kernel) (by decide +kernel)
set_option maxRecDepth 20000 in
theorem gX6_mayBe_X6_layYes : GoodIn wsX6_mayBe (wsV RX6 164 RX6 yX6_layYes wsX6_layYes) := goodIn_app (goodIn_of _ (by decide +kernel)) ggX6_mayBe_X6_layYes
set_option maxRecDepth 20000 in
theorem ggX6_mayBe_X6_isSeen : GoodIn wsX6_mayBe wsX6_isSeen := goodIn_r _ [14, 15, 16, 17, 6, 18, 19, 20, 21, 4, 22, 23, 24, 25, 26, 27, 28, 29, 30, 31, 32, 33, 56, 57, 58, 59, 60, 61, 62, 63, 64, 65, 66, 67, 68, 69, 70, 71, 72, 73, 74, 75, 76, 77, 78, 79] (by decide +kernel) (by decide +kernel)
set_option maxRecDepth 20000 in
theorem gX6_mayBe_X6_isSeen : GoodIn wsX6_mayBe (wsV RX6 167 RX6 yX6_isSeen wsX6_isSeen) := goodIn_app (goodIn_of _ (by decide +kernel)) ggX6_mayBe_X6_isSeen
set_option maxRecDepth 20000 in
theorem ggX6_mayBe_X6_passOn : GoodIn wsX6_mayBe wsX6_passOn := goodIn_r _ [37, 6, 23, 38, 39, 40, 4, 41, 42, 43, 44, 45, 27, 28, 29, 30, 31, 32, 33, 46, 47, 48, 49, 50, 51, 52, 53, 54, 55, 56, 57, 58, 59, 60, 61, 62, 63, 64, 65, 66, 67, 68, 69, 70, 71, 72, 73, 74, 75, 76, 77, 78, 79] (by decide +kernel) (by decide +kernel)
set_option maxRecDepth 20000 in
theorem gX6_mayBe_X6_passOn : GoodIn wsX6_mayBe (wsV RX6 128 RX6 yX6_passOn wsX6_passOn) := goodIn_app (goodIn_of _ (by decide +kernel)) ggX6_mayBe_X6_passOn
theorem dX6_mayBe_0 : decode cX6_mayBe 0 = .ok (.aload_n 0, 1) := by decide +kernel
theorem dX6_mayBe_1 : decode cX6_mayBe 1 = .ok (.iload_n 1, 1) := by decide +kernel
theorem dX6_mayBe_2 : decode cX6_mayBe 2 = .ok (.invokevirtual 164, 3) := by decide +kernel
theorem dX6_mayBe_5 : decode cX6_mayBe 5 = .ok (.aload_n 0, 1) := by decide +kernel
theorem dX6_mayBe_6 : decode cX6_mayBe 6 = .ok (.iconst 0, 1) := by decide +kernel
theorem dX6_mayBe_7 : decode cX6_mayBe 7 = .ok (.invokevirtual 167, 3) := by decide +kernel
theorem dX6_mayBe_10 : decode cX6_mayBe 10 = .ok (.istore_n 2, 1) := by decide +kernel
theorem dX6_mayBe_11 : decode cX6_mayBe 11 = .ok (.iconst 1, 1) := by decide +kernel
theorem dX6_mayBe_12 : decode cX6_mayBe 12 = .ok (.istore_n 3, 1) := by decide +kernel
theorem dX6_mayBe_13 : decode cX6_mayBe 13 = .ok (.iload_n 3, 1) := by decide +kernel
theorem dX6_mayBe_14 : decode cX6_mayBe 14 = .ok (.bipush 10, 2) := by decide +kernel
theorem dX6_mayBe_16 : decode cX6_mayBe 16 = .ok (.if_icmp .ge 25, 3) := by decide +kernel
theorem dX6_mayBe_19 : decode cX6_mayBe 19 = .ok (.iload_n 2, 1) := by decide +kernel
theorem dX6_mayBe_20 : decode cX6_mayBe 20 = .ok (.ifCond .eq 21, 3) := by decide +kernel
theorem dX6_mayBe_23 : decode cX6_mayBe 23 = .ok (.aload_n 0, 1) := by decide +kernel
theorem dX6_mayBe_24 : decode cX6_mayBe 24 = .ok (.iconst 1, 1) := by decide +kernel
theorem dX6_mayBe_25 : decode cX6_mayBe 25 = .ok (.invokevirtual 128, 3) := by decide +kernel
theorem dX6_mayBe_28 : decode cX6_mayBe 28 = .ok (.pop, 1) := by decide +kernel
theorem dX6_mayBe_29 : decode cX6_mayBe 29 = .ok (.aload_n 0, 1) := by decide +kernel
theorem dX6_mayBe_30 : decode cX6_mayBe 30 = .ok (.iload_n 3, 1) := by decide +kernel
theorem dX6_mayBe_31 : decode cX6_mayBe 31 = .ok (.invokevirtual 167, 3) := by decide +kernel
theorem dX6_mayBe_34 : decode cX6_mayBe 34 = .ok (.istore_n 2, 1) := by decide +kernel
theorem dX6_mayBe_35 : decode cX6_mayBe 35 = .ok (.iinc 3 1, 3) := by decide +kernel
theorem dX6_mayBe_38 : decode cX6_mayBe 38 = .ok (.goto (-25), 3) := by decide +kernel
theorem dX6_mayBe_41 : decode cX6_mayBe 41 = .ok (.iload_n 2, 1) := by decide +kernel
theorem dX6_mayBe_42 : decode cX6_mayBe 42 = .ok (.ireturn, 1) := by decide +kernel
set_option maxRecDepth 20000 in
theorem ggX6_first_X6_in : GoodIn wsX6_first wsX6_in := goodIn_r _ [6] (by decide +kernel) (by decide +kernel)
set_option maxRecDepth 20000 in
theorem gX6_first_X6_in : GoodIn wsX6_first (va_wsS RX6 53 yX6_in wsX6_in) := goodIn_app (goodIn_of _ (by decide +kernel)) ggX6_first_X6_in
set_option maxRecDepth 20000 in
theorem ggX6_first_X6_mayBe : GoodIn wsX6_first wsX6_mayBe := goodIn_r _ [10, 11, 12, 13, 5, 14, 2, 15, 16, 17, 18, 19, 20, 21, 22, 23, 24, 25, 26, 27, 28, 29, 30, 31, 3, 4, 6, 32, 33, 34, 35, 36, 37, 38, 39, 40, 41, 42, 43, 44, 45, 46, 47, 48, 49, 50, 51, 52, 53, 54, 55, 56, 57, 58, 59, 60, 61, 62, 63, 64, 65, 66, 67, 68, 69, 70, 71, 72, 73, 74, 75, 76, 77, 78, 79, 80, 81, 82, 83, 84] (by decide +kernel) (by decide +kernel)
set_option maxRecDepth 20000 in
theorem gX6_first_X6_mayBe : GoodIn wsX6_first (wsV RX6 172 RX6 yX6_mayBe wsX6_mayBe) := goodIn_app (goodIn_of _ (by decide +kernel)) ggX6_first_X6_mayBe
theorem dX6_first_0 : decode cX6_first 0 = .ok (.iload_n 1, 1) := by decide +kernel
theorem dX6_first_1 : decode cX6_first 1 = .ok (.i2l, 1) := by decide +kernel
theorem dX6_first_2 : decode cX6_first 2 = .ok (.lconst 0, 1) := by decide +kernel
theorem dX6_first_3 : decode cX6_first 3 = .ok (.ldc2_w 170, 3) := by decide +kernel
theorem dX6_first_6 : decode cX6_first 6 = .ok (.invokestatic 53, 3) := by decide +kernel
theorem dX6_first_9 : decode cX6_first 9 = .ok (.ifCond .ne 6, 3) := by decide +kernel
theorem dX6_first_12 : decode cX6_first 12 = .ok (.bipush (-2), 2) := by decide +kernel
theorem dX6_first_14 : decode cX6_first 14 = .ok (.ireturn, 1) := by decide +kernel
theorem dX6_first_15 : decode cX6_first 15 = .ok (.iconst 0, 1) := by decide +kernel
theorem dX6_first_16 : decode cX6_first 16 = .ok (.istore_n 2, 1) := by decide +kernel
theorem dX6_first_17 : decode cX6_first 17 = .ok (.aload_n 0, 1) := by decide +kernel
theorem dX6_first_18 : decode cX6_first 18 = .ok (.getfield 16, 3) := by decide +kernel
theorem dX6_first_21 : decode cX6_first 21 = .ok (.iconst 1, 1) := by decide +kernel
theorem dX6_first_22 : decode cX6_first 22 = .ok (.iaload, 1) := by decide +kernel
theorem dX6_first_23 : decode cX6_first 23 = .ok (.istore_n 3, 1) := by decide +kernel
theorem dX6_first_24 : decode cX6_first 24 = .ok (.iconst 0, 1) := by decide +kernel
theorem dX6_first_25 : decode cX6_first 25 = .ok (.istore 4, 2) := by decide +kernel
theorem dX6_first_27 : decode cX6_first 27 = .ok (.iconst 0, 1) := by decide +kernel
theorem dX6_first_28 : decode cX6_first 28 = .ok (.istore 5, 2) := by decide +kernel
theorem dX6_first_30 : decode cX6_first 30 = .ok (.iload 5, 2) := by decide +kernel
theorem dX6_first_32 : decode cX6_first 32 = .ok (.bipush 64, 2) := by decide +kernel
theorem dX6_first_34 : decode cX6_first 34 = .ok (.if_icmp .ge 47, 3) := by decide +kernel
theorem dX6_first_37 : decode cX6_first 37 = .ok (.iload 5, 2) := by decide +kernel
theorem dX6_first_39 : decode cX6_first 39 = .ok (.aload_n 0, 1) := by decide +kernel
theorem dX6_first_40 : decode cX6_first 40 = .ok (.getfield 16, 3) := by decide +kernel
theorem dX6_first_43 : decode cX6_first 43 = .ok (.iconst 1, 1) := by decide +kernel
theorem dX6_first_44 : decode cX6_first 44 = .ok (.iaload, 1) := by decide +kernel
theorem dX6_first_45 : decode cX6_first 45 = .ok (.iconst (-1), 1) := by decide +kernel
theorem dX6_first_46 : decode cX6_first 46 = .ok (.ixor, 1) := by decide +kernel
theorem dX6_first_47 : decode cX6_first 47 = .ok (.iand, 1) := by decide +kernel
theorem dX6_first_48 : decode cX6_first 48 = .ok (.ifCond .ne 27, 3) := by decide +kernel
theorem dX6_first_51 : decode cX6_first 51 = .ok (.aload_n 0, 1) := by decide +kernel
theorem dX6_first_52 : decode cX6_first 52 = .ok (.iload 5, 2) := by decide +kernel
theorem dX6_first_54 : decode cX6_first 54 = .ok (.invokevirtual 172, 3) := by decide +kernel
theorem dX6_first_57 : decode cX6_first 57 = .ok (.ifCond .eq 18, 3) := by decide +kernel
theorem dX6_first_60 : decode cX6_first 60 = .ok (.iinc 2 1, 3) := by decide +kernel
theorem dX6_first_63 : decode cX6_first 63 = .ok (.iload_n 3, 1) := by decide +kernel
theorem dX6_first_64 : decode cX6_first 64 = .ok (.iload 5, 2) := by decide +kernel
theorem dX6_first_66 : decode cX6_first 66 = .ok (.iand, 1) := by decide +kernel
theorem dX6_first_67 : decode cX6_first 67 = .ok (.istore_n 3, 1) := by decide +kernel
theorem dX6_first_68 : decode cX6_first 68 = .ok (.iload 4, 2) := by decide +kernel
theorem dX6_first_70 : decode cX6_first 70 = .ok (.iload 5, 2) := by decide +kernel
theorem dX6_first_72 : decode cX6_first 72 = .ok (.ior, 1) := by decide +kernel
theorem dX6_first_73 : decode cX6_first 73 = .ok (.istore 4, 2) := by decide +kernel
theorem dX6_first_75 : decode cX6_first 75 = .ok (.iinc 5 1, 3) := by decide +kernel
theorem dX6_first_78 : decode cX6_first 78 = .ok (.goto (-48), 3) := by decide +kernel
theorem dX6_first_81 : decode cX6_first 81 = .ok (.iload_n 1, 1) := by decide +kernel
theorem dX6_first_82 : decode cX6_first 82 = .ok (.ifCond .ne 7, 3) := by decide +kernel
theorem dX6_first_85 : decode cX6_first 85 = .ok (.iload_n 2, 1) := by decide +kernel
theorem dX6_first_86 : decode cX6_first 86 = .ok (.goto 32, 3) := by decide +kernel
theorem dX6_first_89 : decode cX6_first 89 = .ok (.iload_n 2, 1) := by decide +kernel
theorem dX6_first_90 : decode cX6_first 90 = .ok (.ifCond .ne 8, 3) := by decide +kernel
theorem dX6_first_93 : decode cX6_first 93 = .ok (.bipush (-9), 2) := by decide +kernel
theorem dX6_first_95 : decode cX6_first 95 = .ok (.goto 23, 3) := by decide +kernel
theorem dX6_first_98 : decode cX6_first 98 = .ok (.iload_n 1, 1) := by decide +kernel
theorem dX6_first_99 : decode cX6_first 99 = .ok (.iconst 1, 1) := by decide +kernel
theorem dX6_first_100 : decode cX6_first 100 = .ok (.if_icmp .ne 7, 3) := by decide +kernel
theorem dX6_first_103 : decode cX6_first 103 = .ok (.iload_n 3, 1) := by decide +kernel
theorem dX6_first_104 : decode cX6_first 104 = .ok (.goto 14, 3) := by decide +kernel
theorem dX6_first_107 : decode cX6_first 107 = .ok (.aload_n 0, 1) := by decide +kernel
theorem dX6_first_108 : decode cX6_first 108 = .ok (.getfield 16, 3) := by decide +kernel
theorem dX6_first_111 : decode cX6_first 111 = .ok (.iconst 1, 1) := by decide +kernel
theorem dX6_first_112 : decode cX6_first 112 = .ok (.iaload, 1) := by decide +kernel
theorem dX6_first_113 : decode cX6_first 113 = .ok (.iload 4, 2) := by decide +kernel
theorem dX6_first_115 : decode cX6_first 115 = .ok (.iconst (-1), 1) := by decide +kernel
theorem dX6_first_116 : decode cX6_first 116 = .ok (.ixor, 1) := by decide +kernel
theorem dX6_first_117 : decode cX6_first 117 = .ok (.iand, 1) := by decide +kernel
theorem dX6_first_118 : decode cX6_first 118 = .ok (.ireturn, 1) := by decide +kernel
theorem dX6_factorial_0 : decode cX6_factorial 0 = .ok (.iconst 1, 1) := by decide +kernel
theorem dX6_factorial_1 : decode cX6_factorial 1 = .ok (.istore_n 1, 1) := by decide +kernel
theorem dX6_factorial_2 : decode cX6_factorial 2 = .ok (.iconst 2, 1) := by decide +kernel
theorem dX6_factorial_3 : decode cX6_factorial 3 = .ok (.istore_n 2, 1) := by decide +kernel
theorem dX6_factorial_4 : decode cX6_factorial 4 = .ok (.iload_n 2, 1) := by decide +kernel
theorem dX6_factorial_5 : decode cX6_factorial 5 = .ok (.iload_n 0, 1) := by decide +kernel
theorem dX6_factorial_6 : decode cX6_factorial 6 = .ok (.if_icmp .gt 13, 3) := by decide +kernel
theorem dX6_factorial_9 : decode cX6_factorial 9 = .ok (.iload_n 1, 1) := by decide +kernel
theorem dX6_factorial_10 : decode cX6_factorial 10 = .ok (.iload_n 2, 1) := by decide +kernel
theorem dX6_factorial_11 : decode cX6_factorial 11 = .ok (.imul, 1) := by decide +kernel
theorem dX6_factorial_12 : decode cX6_factorial 12 = .ok (.istore_n 1, 1) := by decide +kernel
theorem dX6_factorial_13 : decode cX6_factorial 13 = .ok (.iinc 2 1, 3) := by decide +kernel
theorem dX6_factorial_16 : decode cX6_factorial 16 = .ok (.goto (-12), 3) := by decide +kernel
theorem dX6_factorial_19 : decode cX6_factorial 19 = .ok (.iload_n 1, 1) := by decide +kernel
theorem dX6_factorial_20 : decode cX6_factorial 20 = .ok (.ireturn, 1) := by decide +kernel
theorem dX6_common_0 : decode cX6_common 0 = .ok (.iload_n 0, 1) := by decide +kernel
theorem dX6_common_1 : decode cX6_common 1 = .ok (.ifCond .ge 8, 3) := by decide +kernel
theorem dX6_common_4 : decode cX6_common 4 = .ok (.iload_n 0, 1) := by decide +kernel
theorem dX6_common_5 : decode cX6_common 5 = .ok (.ineg, 1) := by decide +kernel
theorem dX6_common_6 : decode cX6_common 6 = .ok (.goto 4, 3) := by decide +kernel
theorem dX6_common_9 : decode cX6_common 9 = .ok (.iload_n 0, 1) := by decide +kernel
theorem dX6_common_10 : decode cX6_common 10 = .ok (.istore_n 2, 1) := by decide +kernel
theorem dX6_common_11 : decode cX6_common 11 = .ok (.iload_n 1, 1) := by decide +kernel
theorem dX6_common_12 : decode cX6_common 12 = .ok (.istore_n 3, 1) := by decide +kernel
theorem dX6_common_13 : decode cX6_common 13 = .ok (.iload_n 3, 1) := by decide +kernel
theorem dX6_common_14 : decode cX6_common 14 = .ok (.ifCond .eq 16, 3) := by decide +kernel
theorem dX6_common_17 : decode cX6_common 17 = .ok (.iload_n 2, 1) := by decide +kernel
theorem dX6_common_18 : decode cX6_common 18 = .ok (.iload_n 3, 1) := by decide +kernel
theorem dX6_common_19 : decode cX6_common 19 = .ok (.irem, 1) := by decide +kernel
theorem dX6_common_20 : decode cX6_common 20 = .ok (.istore 4, 2) := by decide +kernel
theorem dX6_common_22 : decode cX6_common 22 = .ok (.iload_n 3, 1) := by decide +kernel
theorem dX6_common_23 : decode cX6_common 23 = .ok (.istore_n 2, 1) := by decide +kernel
theorem dX6_common_24 : decode cX6_common 24 = .ok (.iload 4, 2) := by decide +kernel
theorem dX6_common_26 : decode cX6_common 26 = .ok (.istore_n 3, 1) := by decide +kernel
theorem dX6_common_27 : decode cX6_common 27 = .ok (.goto (-14), 3) := by decide +kernel
theorem dX6_common_30 : decode cX6_common 30 = .ok (.iload_n 2, 1) := by decide +kernel
theorem dX6_common_31 : decode cX6_common 31 = .ok (.ireturn, 1) := by decide +kernel
set_option maxRecDepth 20000 in
theorem ggX6_endOf_X6_layYes : GoodIn wsX6_endOf wsX6_layYes := goodIn_r _ [5, 6, 7, 8, 9, 4, 10, 46, 47, 48, 49, 50, 51, 52, 53, 54, 55, 56, 57, 58, 59, 60, 61, 62, 63, 64, 65, 66, 67, 68, 69] (by decide +kernel) (by decide +kernel)
set_option maxRecDepth 20000 in
theorem gX6_endOf_X6_layYes : GoodIn wsX6_endOf (wsV RX6 164 RX6 yX6_layYes wsX6_layYes) := goodIn_app (goodIn_of _ (by decide +kernel)) ggX6_endOf_X6_layYes
set_option maxRecDepth 20000 in
theorem ggX6_endOf_X6_runTrial : GoodIn wsX6_endOf wsX6_runTrial := goodIn_r _ [14, 15, 16, 17, 18, 4, 19, 6, 20, 21, 22, 23, 24, 25, 26, 27, 28, 29, 30, 31, 32, 33, 34, 35, 36, 37, 38, 39, 40, 41, 42, 43, 44, 45, 46, 47, 48, 49, 50, 51, 52, 53, 54, 55, 56, 57, 58, 59, 60, 61, 62, 63, 64, 65, 66, 67, 68, 69] (by decide +kernel) (by decide +kernel)
set_option maxRecDepth 20000 in
theorem gX6_endOf_X6_runTrial : GoodIn wsX6_endOf (wsV RX6 146 RX6 yX6_runTrial wsX6_runTrial) := goodIn_app (goodIn_of _ (by decide +kernel)) ggX6_endOf_X6_runTrial
theorem dX6_endOf_0 : decode cX6_endOf 0 = .ok (.aload_n 0, 1) := by decide +kernel
theorem dX6_endOf_1 : decode cX6_endOf 1 = .ok (.iload_n 1, 1) := by decide +kernel
theorem dX6_endOf_2 : decode cX6_endOf 2 = .ok (.invokevirtual 164, 3) := by decide +kernel
theorem dX6_endOf_5 : decode cX6_endOf 5 = .ok (.aload_n 0, 1) := by decide +kernel
theorem dX6_endOf_6 : decode cX6_endOf 6 = .ok (.invokevirtual 146, 3) := by decide +kernel
theorem dX6_endOf_9 : decode cX6_endOf 9 = .ok (.ireturn, 1) := by decide +kernel
set_option maxRecDepth 20000 in
theorem ggX6_share_X6_isJuror : GoodIn wsX6_share wsX6_isJuror := goodIn_r _ [6, 7, 8, 9, 5, 10, 63, 64, 65, 66, 67, 68, 69, 70, 71, 72, 73, 74, 75, 76, 77, 78, 79, 80, 81, 82, 83, 84, 85, 86] (by decide +kernel) (by decide +kernel)
set_option maxRecDepth 20000 in
theorem gX6_share_X6_isJuror : GoodIn wsX6_share (wsV RX6 118 RX6 yX6_isJuror wsX6_isJuror) := goodIn_app (goodIn_of _ (by decide +kernel)) ggX6_share_X6_isJuror
set_option maxRecDepth 20000 in
theorem ggX6_share_X6_isThere : GoodIn wsX6_share wsX6_isThere := goodIn_r _ [14, 1, 15, 16, 5, 17, 63, 64, 65, 66, 67, 68, 69, 70, 71, 72, 73, 74, 75, 76, 77, 78, 79, 80, 81, 82, 83, 84, 85, 86] (by decide +kernel) (by decide +kernel)
set_option maxRecDepth 20000 in
theorem gX6_share_X6_isThere : GoodIn wsX6_share (wsV RX6 108 RX6 yX6_isThere wsX6_isThere) := goodIn_app (goodIn_of _ (by decide +kernel)) ggX6_share_X6_isThere
set_option maxRecDepth 20000 in
theorem ggX6_share_X6_has : GoodIn wsX6_share wsX6_has := goodIn_r _ [17] (by decide +kernel) (by decide +kernel)
set_option maxRecDepth 20000 in
theorem gX6_share_X6_has : GoodIn wsX6_share (va_wsS RX6 68 yX6_has wsX6_has) := goodIn_app (goodIn_of _ (by decide +kernel)) ggX6_share_X6_has
set_option maxRecDepth 20000 in
theorem ggX6_share_X6_ones : GoodIn wsX6_share wsX6_ones := goodIn_r _ [20] (by decide +kernel) (by decide +kernel)
set_option maxRecDepth 20000 in
theorem gX6_share_X6_ones : GoodIn wsX6_share (va_wsS RX6 102 yX6_ones wsX6_ones) := goodIn_app (goodIn_of _ (by decide +kernel)) ggX6_share_X6_ones
set_option maxRecDepth 20000 in
theorem ggX6_share_X6_factorial : GoodIn wsX6_share wsX6_factorial := goodIn_r _ [23] (by decide +kernel) (by decide +kernel)
set_option maxRecDepth 20000 in
theorem gX6_share_X6_factorial : GoodIn wsX6_share (va_wsS RX6 175 yX6_factorial wsX6_factorial) := goodIn_app (goodIn_of _ (by decide +kernel)) ggX6_share_X6_factorial
set_option maxRecDepth 20000 in
theorem ggX6_share_X6_endOf : GoodIn wsX6_share wsX6_endOf := goodIn_r _ [27, 28, 29, 30, 5, 31, 1, 32, 33, 34, 35, 36, 37, 38, 39, 40, 41, 42, 43, 44, 45, 18, 19, 20, 46, 47, 48, 49, 7, 11, 12, 13, 14, 15, 16, 17, 50, 51, 52, 53, 54, 55, 56, 57, 58, 59, 63, 64, 65, 66, 67, 68, 69, 70, 71, 72, 73, 74, 75, 76, 77, 78, 79, 80, 81, 82, 83, 84, 85, 86] (by decide +kernel) (by decide +kernel)
set_option maxRecDepth 20000 in
theorem gX6_share_X6_endOf : GoodIn wsX6_share (wsV RX6 178 RX6 yX6_endOf wsX6_endOf) := goodIn_app (goodIn_of _ (by decide +kernel)) ggX6_share_X6_endOf
set_option maxRecDepth 20000 in
theorem ggX6_share_X6_common : GoodIn wsX6_share wsX6_common := goodIn_r _ [62] (by decide +kernel) (by decide +kernel)
set_option maxRecDepth 20000 in
theorem gX6_share_X6_common : GoodIn wsX6_share (va_wsS RX6 181 yX6_common wsX6_common) := goodIn_app (goodIn_of _ (by decide +kernel)) ggX6_share_X6_common
theorem dX6_share_0 : decode cX6_share 0 = .ok (.aload_n 0, 1) := by decide +kernel
theorem dX6_share_1 : decode cX6_share 1 = .ok (.iload_n 1, 1) := by decide +kernel
theorem dX6_share_2 : decode cX6_share 2 = .ok (.invokevirtual 118, 3) := by decide +kernel
theorem dX6_share_5 : decode cX6_share 5 = .ok (.ifCond .ne 5, 3) := by decide +kernel
theorem dX6_share_8 : decode cX6_share 8 = .ok (.iconst (-1), 1) := by decide +kernel
theorem dX6_share_9 : decode cX6_share 9 = .ok (.ireturn, 1) := by decide +kernel
theorem dX6_share_10 : decode cX6_share 10 = .ok (.aload_n 0, 1) := by decide +kernel
theorem dX6_share_11 : decode cX6_share 11 = .ok (.iconst 0, 1) := by decide +kernel
theorem dX6_share_12 : decode cX6_share 12 = .ok (.iload_n 1, 1) := by decide +kernel
theorem dX6_share_13 : decode cX6_share 13 = .ok (.invokevirtual 108, 3) := by decide +kernel
theorem dX6_share_16 : decode cX6_share 16 = .ok (.ifCond .ne 13, 3) := by decide +kernel
theorem dX6_share_19 : decode cX6_share 19 = .ok (.iload_n 2, 1) := by decide +kernel
theorem dX6_share_20 : decode cX6_share 20 = .ok (.ifCond .eq 7, 3) := by decide +kernel
theorem dX6_share_23 : decode cX6_share 23 = .ok (.iconst 0, 1) := by decide +kernel
theorem dX6_share_24 : decode cX6_share 24 = .ok (.goto 4, 3) := by decide +kernel
theorem dX6_share_27 : decode cX6_share 27 = .ok (.iconst 1, 1) := by decide +kernel
theorem dX6_share_28 : decode cX6_share 28 = .ok (.ireturn, 1) := by decide +kernel
theorem dX6_share_29 : decode cX6_share 29 = .ok (.aload_n 0, 1) := by decide +kernel
theorem dX6_share_30 : decode cX6_share 30 = .ok (.getfield 16, 3) := by decide +kernel
theorem dX6_share_33 : decode cX6_share 33 = .ok (.iconst 1, 1) := by decide +kernel
theorem dX6_share_34 : decode cX6_share 34 = .ok (.iaload, 1) := by decide +kernel
theorem dX6_share_35 : decode cX6_share 35 = .ok (.istore_n 3, 1) := by decide +kernel
theorem dX6_share_36 : decode cX6_share 36 = .ok (.iconst 0, 1) := by decide +kernel
theorem dX6_share_37 : decode cX6_share 37 = .ok (.istore 4, 2) := by decide +kernel
theorem dX6_share_39 : decode cX6_share 39 = .ok (.iconst 0, 1) := by decide +kernel
theorem dX6_share_40 : decode cX6_share 40 = .ok (.istore 5, 2) := by decide +kernel
theorem dX6_share_42 : decode cX6_share 42 = .ok (.iload 5, 2) := by decide +kernel
theorem dX6_share_44 : decode cX6_share 44 = .ok (.iload_n 3, 1) := by decide +kernel
theorem dX6_share_45 : decode cX6_share 45 = .ok (.if_icmp .gt 96, 3) := by decide +kernel
theorem dX6_share_48 : decode cX6_share 48 = .ok (.iload 5, 2) := by decide +kernel
theorem dX6_share_50 : decode cX6_share 50 = .ok (.iload_n 3, 1) := by decide +kernel
theorem dX6_share_51 : decode cX6_share 51 = .ok (.iconst (-1), 1) := by decide +kernel
theorem dX6_share_52 : decode cX6_share 52 = .ok (.ixor, 1) := by decide +kernel
theorem dX6_share_53 : decode cX6_share 53 = .ok (.iand, 1) := by decide +kernel
theorem dX6_share_54 : decode cX6_share 54 = .ok (.ifCond .ne 81, 3) := by decide +kernel
theorem dX6_share_57 : decode cX6_share 57 = .ok (.iload 5, 2) := by decide +kernel
theorem dX6_share_59 : decode cX6_share 59 = .ok (.iload_n 1, 1) := by decide +kernel
theorem dX6_share_60 : decode cX6_share 60 = .ok (.invokestatic 68, 3) := by decide +kernel
theorem dX6_share_63 : decode cX6_share 63 = .ok (.ifCond .ne 72, 3) := by decide +kernel
theorem dX6_share_66 : decode cX6_share 66 = .ok (.iload 5, 2) := by decide +kernel
theorem dX6_share_68 : decode cX6_share 68 = .ok (.invokestatic 102, 3) := by decide +kernel
theorem dX6_share_71 : decode cX6_share 71 = .ok (.invokestatic 175, 3) := by decide +kernel
theorem dX6_share_74 : decode cX6_share 74 = .ok (.iload_n 3, 1) := by decide +kernel
theorem dX6_share_75 : decode cX6_share 75 = .ok (.invokestatic 102, 3) := by decide +kernel
theorem dX6_share_78 : decode cX6_share 78 = .ok (.iconst 1, 1) := by decide +kernel
theorem dX6_share_79 : decode cX6_share 79 = .ok (.isub, 1) := by decide +kernel
theorem dX6_share_80 : decode cX6_share 80 = .ok (.iload 5, 2) := by decide +kernel
theorem dX6_share_82 : decode cX6_share 82 = .ok (.invokestatic 102, 3) := by decide +kernel
theorem dX6_share_85 : decode cX6_share 85 = .ok (.isub, 1) := by decide +kernel
theorem dX6_share_86 : decode cX6_share 86 = .ok (.invokestatic 175, 3) := by decide +kernel
theorem dX6_share_89 : decode cX6_share 89 = .ok (.imul, 1) := by decide +kernel
theorem dX6_share_90 : decode cX6_share 90 = .ok (.istore 6, 2) := by decide +kernel
theorem dX6_share_92 : decode cX6_share 92 = .ok (.iload 4, 2) := by decide +kernel
theorem dX6_share_94 : decode cX6_share 94 = .ok (.iload 6, 2) := by decide +kernel
theorem dX6_share_96 : decode cX6_share 96 = .ok (.aload_n 0, 1) := by decide +kernel
theorem dX6_share_97 : decode cX6_share 97 = .ok (.iload 5, 2) := by decide +kernel
theorem dX6_share_99 : decode cX6_share 99 = .ok (.iconst 1, 1) := by decide +kernel
theorem dX6_share_100 : decode cX6_share 100 = .ok (.iload_n 1, 1) := by decide +kernel
theorem dX6_share_101 : decode cX6_share 101 = .ok (.ishl, 1) := by decide +kernel
theorem dX6_share_102 : decode cX6_share 102 = .ok (.ior, 1) := by decide +kernel
theorem dX6_share_103 : decode cX6_share 103 = .ok (.invokevirtual 178, 3) := by decide +kernel
theorem dX6_share_106 : decode cX6_share 106 = .ok (.iconst 1, 1) := by decide +kernel
theorem dX6_share_107 : decode cX6_share 107 = .ok (.if_icmp .ne 7, 3) := by decide +kernel
theorem dX6_share_110 : decode cX6_share 110 = .ok (.iconst 1, 1) := by decide +kernel
theorem dX6_share_111 : decode cX6_share 111 = .ok (.goto 4, 3) := by decide +kernel
theorem dX6_share_114 : decode cX6_share 114 = .ok (.iconst 0, 1) := by decide +kernel
theorem dX6_share_115 : decode cX6_share 115 = .ok (.aload_n 0, 1) := by decide +kernel
theorem dX6_share_116 : decode cX6_share 116 = .ok (.iload 5, 2) := by decide +kernel
theorem dX6_share_118 : decode cX6_share 118 = .ok (.invokevirtual 178, 3) := by decide +kernel
theorem dX6_share_121 : decode cX6_share 121 = .ok (.iconst 1, 1) := by decide +kernel
theorem dX6_share_122 : decode cX6_share 122 = .ok (.if_icmp .ne 7, 3) := by decide +kernel
theorem dX6_share_125 : decode cX6_share 125 = .ok (.iconst 1, 1) := by decide +kernel
theorem dX6_share_126 : decode cX6_share 126 = .ok (.goto 4, 3) := by decide +kernel
theorem dX6_share_129 : decode cX6_share 129 = .ok (.iconst 0, 1) := by decide +kernel
theorem dX6_share_130 : decode cX6_share 130 = .ok (.isub, 1) := by decide +kernel
theorem dX6_share_131 : decode cX6_share 131 = .ok (.imul, 1) := by decide +kernel
theorem dX6_share_132 : decode cX6_share 132 = .ok (.iadd, 1) := by decide +kernel
theorem dX6_share_133 : decode cX6_share 133 = .ok (.istore 4, 2) := by decide +kernel
theorem dX6_share_135 : decode cX6_share 135 = .ok (.iinc 5 1, 3) := by decide +kernel
theorem dX6_share_138 : decode cX6_share 138 = .ok (.goto (-96), 3) := by decide +kernel
theorem dX6_share_141 : decode cX6_share 141 = .ok (.iload 4, 2) := by decide +kernel
theorem dX6_share_143 : decode cX6_share 143 = .ok (.iload_n 3, 1) := by decide +kernel
theorem dX6_share_144 : decode cX6_share 144 = .ok (.invokestatic 102, 3) := by decide +kernel
theorem dX6_share_147 : decode cX6_share 147 = .ok (.invokestatic 175, 3) := by decide +kernel
theorem dX6_share_150 : decode cX6_share 150 = .ok (.invokestatic 181, 3) := by decide +kernel
theorem dX6_share_153 : decode cX6_share 153 = .ok (.istore 5, 2) := by decide +kernel
theorem dX6_share_155 : decode cX6_share 155 = .ok (.iload_n 2, 1) := by decide +kernel
theorem dX6_share_156 : decode cX6_share 156 = .ok (.ifCond .eq 11, 3) := by decide +kernel
theorem dX6_share_159 : decode cX6_share 159 = .ok (.iload 4, 2) := by decide +kernel
theorem dX6_share_161 : decode cX6_share 161 = .ok (.iload 5, 2) := by decide +kernel
theorem dX6_share_163 : decode cX6_share 163 = .ok (.idiv, 1) := by decide +kernel
theorem dX6_share_164 : decode cX6_share 164 = .ok (.goto 13, 3) := by decide +kernel
theorem dX6_share_167 : decode cX6_share 167 = .ok (.iload_n 3, 1) := by decide +kernel
theorem dX6_share_168 : decode cX6_share 168 = .ok (.invokestatic 102, 3) := by decide +kernel
theorem dX6_share_171 : decode cX6_share 171 = .ok (.invokestatic 175, 3) := by decide +kernel
theorem dX6_share_174 : decode cX6_share 174 = .ok (.iload 5, 2) := by decide +kernel
theorem dX6_share_176 : decode cX6_share 176 = .ok (.idiv, 1) := by decide +kernel
theorem dX6_share_177 : decode cX6_share 177 = .ok (.ireturn, 1) := by decide +kernel
theorem dX6_loses_0 : decode cX6_loses 0 = .ok (.aload_n 0, 1) := by decide +kernel
theorem dX6_loses_1 : decode cX6_loses 1 = .ok (.getfield 7, 3) := by decide +kernel
theorem dX6_loses_4 : decode cX6_loses 4 = .ok (.iload_n 1, 1) := by decide +kernel
theorem dX6_loses_5 : decode cX6_loses 5 = .ok (.iaload, 1) := by decide +kernel
theorem dX6_loses_6 : decode cX6_loses 6 = .ok (.iconst 1, 1) := by decide +kernel
theorem dX6_loses_7 : decode cX6_loses 7 = .ok (.if_icmp .ne 7, 3) := by decide +kernel
theorem dX6_loses_10 : decode cX6_loses 10 = .ok (.iconst 2, 1) := by decide +kernel
theorem dX6_loses_11 : decode cX6_loses 11 = .ok (.goto 4, 3) := by decide +kernel
theorem dX6_loses_14 : decode cX6_loses 14 = .ok (.iconst 1, 1) := by decide +kernel
theorem dX6_loses_15 : decode cX6_loses 15 = .ok (.istore 5, 2) := by decide +kernel
theorem dX6_loses_17 : decode cX6_loses 17 = .ok (.iload_n 3, 1) := by decide +kernel
theorem dX6_loses_18 : decode cX6_loses 18 = .ok (.iload 4, 2) := by decide +kernel
theorem dX6_loses_20 : decode cX6_loses 20 = .ok (.if_icmp .lt 14, 3) := by decide +kernel
theorem dX6_loses_23 : decode cX6_loses 23 = .ok (.iload_n 3, 1) := by decide +kernel
theorem dX6_loses_24 : decode cX6_loses 24 = .ok (.iload 4, 2) := by decide +kernel
theorem dX6_loses_26 : decode cX6_loses 26 = .ok (.if_icmp .ne 12, 3) := by decide +kernel
theorem dX6_loses_29 : decode cX6_loses 29 = .ok (.iload_n 1, 1) := by decide +kernel
theorem dX6_loses_30 : decode cX6_loses 30 = .ok (.iload_n 2, 1) := by decide +kernel
theorem dX6_loses_31 : decode cX6_loses 31 = .ok (.if_icmp .ge 7, 3) := by decide +kernel
theorem dX6_loses_34 : decode cX6_loses 34 = .ok (.iconst 1, 1) := by decide +kernel
theorem dX6_loses_35 : decode cX6_loses 35 = .ok (.goto 4, 3) := by decide +kernel
theorem dX6_loses_38 : decode cX6_loses 38 = .ok (.iconst 0, 1) := by decide +kernel
theorem dX6_loses_39 : decode cX6_loses 39 = .ok (.istore 6, 2) := by decide +kernel
theorem dX6_loses_41 : decode cX6_loses 41 = .ok (.iload 6, 2) := by decide +kernel
theorem dX6_loses_43 : decode cX6_loses 43 = .ok (.ifCond .eq 12, 3) := by decide +kernel
theorem dX6_loses_46 : decode cX6_loses 46 = .ok (.iconst 3, 1) := by decide +kernel
theorem dX6_loses_47 : decode cX6_loses 47 = .ok (.iload_n 3, 1) := by decide +kernel
theorem dX6_loses_48 : decode cX6_loses 48 = .ok (.iload 5, 2) := by decide +kernel
theorem dX6_loses_50 : decode cX6_loses 50 = .ok (.imul, 1) := by decide +kernel
theorem dX6_loses_51 : decode cX6_loses 51 = .ok (.iadd, 1) := by decide +kernel
theorem dX6_loses_52 : decode cX6_loses 52 = .ok (.goto 8, 3) := by decide +kernel
theorem dX6_loses_55 : decode cX6_loses 55 = .ok (.iload 4, 2) := by decide +kernel
theorem dX6_loses_57 : decode cX6_loses 57 = .ok (.iload 5, 2) := by decide +kernel
theorem dX6_loses_59 : decode cX6_loses 59 = .ok (.imul, 1) := by decide +kernel
theorem dX6_loses_60 : decode cX6_loses 60 = .ok (.ireturn, 1) := by decide +kernel
set_option maxRecDepth 20000 in
theorem ggX6_isRest_X6_loses : GoodIn wsX6_isRest wsX6_loses := goodIn_r _ [5, 6, 7, 8, 9, 10, 11, 12, 13, 14, 15, 16, 17, 18, 19, 20, 21, 22, 23, 24, 25, 26, 27, 28, 29, 30] (by decide +kernel) (by decide +kernel)
set_option maxRecDepth 20000 in
theorem gX6_isRest_X6_loses : GoodIn wsX6_isRest (wsV RX6 185 RX6 yX6_loses wsX6_loses) := goodIn_app (goodIn_of _ (by decide +kernel)) ggX6_isRest_X6_loses
theorem dX6_isRest_0 : decode cX6_isRest 0 = .ok (.iconst 1, 1) := by decide +kernel
theorem dX6_isRest_1 : decode cX6_isRest 1 = .ok (.istore 5, 2) := by decide +kernel
theorem dX6_isRest_3 : decode cX6_isRest 3 = .ok (.iconst 0, 1) := by decide +kernel
theorem dX6_isRest_4 : decode cX6_isRest 4 = .ok (.istore 6, 2) := by decide +kernel
theorem dX6_isRest_6 : decode cX6_isRest 6 = .ok (.iload 6, 2) := by decide +kernel
theorem dX6_isRest_8 : decode cX6_isRest 8 = .ok (.iconst 5, 1) := by decide +kernel
theorem dX6_isRest_9 : decode cX6_isRest 9 = .ok (.if_icmp .ge 64, 3) := by decide +kernel
theorem dX6_isRest_12 : decode cX6_isRest 12 = .ok (.iload 5, 2) := by decide +kernel
theorem dX6_isRest_14 : decode cX6_isRest 14 = .ok (.ifCond .eq 50, 3) := by decide +kernel
theorem dX6_isRest_17 : decode cX6_isRest 17 = .ok (.aload_n 0, 1) := by decide +kernel
theorem dX6_isRest_18 : decode cX6_isRest 18 = .ok (.iload_n 1, 1) := by decide +kernel
theorem dX6_isRest_19 : decode cX6_isRest 19 = .ok (.iload_n 2, 1) := by decide +kernel
theorem dX6_isRest_20 : decode cX6_isRest 20 = .ok (.iload 6, 2) := by decide +kernel
theorem dX6_isRest_22 : decode cX6_isRest 22 = .ok (.iload 4, 2) := by decide +kernel
theorem dX6_isRest_24 : decode cX6_isRest 24 = .ok (.invokevirtual 185, 3) := by decide +kernel
theorem dX6_isRest_27 : decode cX6_isRest 27 = .ok (.aload_n 0, 1) := by decide +kernel
theorem dX6_isRest_28 : decode cX6_isRest 28 = .ok (.iload_n 1, 1) := by decide +kernel
theorem dX6_isRest_29 : decode cX6_isRest 29 = .ok (.iload_n 2, 1) := by decide +kernel
theorem dX6_isRest_30 : decode cX6_isRest 30 = .ok (.iload_n 3, 1) := by decide +kernel
theorem dX6_isRest_31 : decode cX6_isRest 31 = .ok (.iload 4, 2) := by decide +kernel
theorem dX6_isRest_33 : decode cX6_isRest 33 = .ok (.invokevirtual 185, 3) := by decide +kernel
theorem dX6_isRest_36 : decode cX6_isRest 36 = .ok (.if_icmp .lt 28, 3) := by decide +kernel
theorem dX6_isRest_39 : decode cX6_isRest 39 = .ok (.aload_n 0, 1) := by decide +kernel
theorem dX6_isRest_40 : decode cX6_isRest 40 = .ok (.iload_n 2, 1) := by decide +kernel
theorem dX6_isRest_41 : decode cX6_isRest 41 = .ok (.iload_n 1, 1) := by decide +kernel
theorem dX6_isRest_42 : decode cX6_isRest 42 = .ok (.iload 6, 2) := by decide +kernel
theorem dX6_isRest_44 : decode cX6_isRest 44 = .ok (.iload_n 3, 1) := by decide +kernel
theorem dX6_isRest_45 : decode cX6_isRest 45 = .ok (.invokevirtual 185, 3) := by decide +kernel
theorem dX6_isRest_48 : decode cX6_isRest 48 = .ok (.aload_n 0, 1) := by decide +kernel
theorem dX6_isRest_49 : decode cX6_isRest 49 = .ok (.iload_n 2, 1) := by decide +kernel
theorem dX6_isRest_50 : decode cX6_isRest 50 = .ok (.iload_n 1, 1) := by decide +kernel
theorem dX6_isRest_51 : decode cX6_isRest 51 = .ok (.iload 4, 2) := by decide +kernel
theorem dX6_isRest_53 : decode cX6_isRest 53 = .ok (.iload_n 3, 1) := by decide +kernel
theorem dX6_isRest_54 : decode cX6_isRest 54 = .ok (.invokevirtual 185, 3) := by decide +kernel
theorem dX6_isRest_57 : decode cX6_isRest 57 = .ok (.if_icmp .lt 7, 3) := by decide +kernel
theorem dX6_isRest_60 : decode cX6_isRest 60 = .ok (.iconst 1, 1) := by decide +kernel
theorem dX6_isRest_61 : decode cX6_isRest 61 = .ok (.goto 4, 3) := by decide +kernel
theorem dX6_isRest_64 : decode cX6_isRest 64 = .ok (.iconst 0, 1) := by decide +kernel
theorem dX6_isRest_65 : decode cX6_isRest 65 = .ok (.istore 5, 2) := by decide +kernel
theorem dX6_isRest_67 : decode cX6_isRest 67 = .ok (.iinc 6 1, 3) := by decide +kernel
theorem dX6_isRest_70 : decode cX6_isRest 70 = .ok (.goto (-64), 3) := by decide +kernel
theorem dX6_isRest_73 : decode cX6_isRest 73 = .ok (.iload 5, 2) := by decide +kernel
theorem dX6_isRest_75 : decode cX6_isRest 75 = .ok (.ireturn, 1) := by decide +kernel
set_option maxRecDepth 20000 in
theorem ggX6_rests_X6_isJuror : GoodIn wsX6_rests wsX6_isJuror := goodIn_r _ [5, 6, 7, 8, 4, 9, 19, 20, 21, 22, 23, 24, 25, 26, 27, 28, 29, 30, 31, 32, 33, 34, 35, 36, 37, 38, 39, 40, 41, 42] (by decide +kernel) (by decide +kernel)
set_option maxRecDepth 20000 in
theorem gX6_rests_X6_isJuror : GoodIn wsX6_rests (wsV RX6 118 RX6 yX6_isJuror wsX6_isJuror) := goodIn_app (goodIn_of _ (by decide +kernel)) ggX6_rests_X6_isJuror
set_option maxRecDepth 20000 in
theorem ggX6_rests_X6_in : GoodIn wsX6_rests wsX6_in := goodIn_r _ [9] (by decide +kernel) (by decide +kernel)
set_option maxRecDepth 20000 in
theorem gX6_rests_X6_in : GoodIn wsX6_rests (va_wsS RX6 53 yX6_in wsX6_in) := goodIn_app (goodIn_of _ (by decide +kernel)) ggX6_rests_X6_in
set_option maxRecDepth 20000 in
theorem ggX6_rests_X6_isRest : GoodIn wsX6_rests wsX6_isRest := goodIn_r _ [13, 14, 15, 16, 4, 17, 18, 19, 20, 21, 22, 23, 24, 25, 26, 27, 28, 29, 30, 31, 32, 33, 34, 35, 36, 37, 38, 39, 40, 41, 42] (by decide +kernel) (by decide +kernel)
set_option maxRecDepth 20000 in
theorem gX6_rests_X6_isRest : GoodIn wsX6_rests (wsV RX6 189 RX6 yX6_isRest wsX6_isRest) := goodIn_app (goodIn_of _ (by decide +kernel)) ggX6_rests_X6_isRest
theorem dX6_rests_0 : decode cX6_rests 0 = .ok (.aload_n 0, 1) := by decide +kernel
theorem dX6_rests_1 : decode cX6_rests 1 = .ok (.iload_n 1, 1) := by decide +kernel
theorem dX6_rests_2 : decode cX6_rests 2 = .ok (.invokevirtual 118, 3) := by decide +kernel
theorem dX6_rests_5 : decode cX6_rests 5 = .ok (.ifCond .eq 11, 3) := by decide +kernel
theorem dX6_rests_8 : decode cX6_rests 8 = .ok (.aload_n 0, 1) := by decide +kernel
theorem dX6_rests_9 : decode cX6_rests 9 = .ok (.iload_n 2, 1) := by decide +kernel
theorem dX6_rests_10 : decode cX6_rests 10 = .ok (.invokevirtual 118, 3) := by decide +kernel
theorem dX6_rests_13 : decode cX6_rests 13 = .ok (.ifCond .ne 5, 3) := by decide +kernel
theorem dX6_rests_16 : decode cX6_rests 16 = .ok (.iconst (-1), 1) := by decide +kernel
theorem dX6_rests_17 : decode cX6_rests 17 = .ok (.ireturn, 1) := by decide +kernel
theorem dX6_rests_18 : decode cX6_rests 18 = .ok (.iload_n 1, 1) := by decide +kernel
theorem dX6_rests_19 : decode cX6_rests 19 = .ok (.iload_n 2, 1) := by decide +kernel
theorem dX6_rests_20 : decode cX6_rests 20 = .ok (.if_icmp .eq 13, 3) := by decide +kernel
theorem dX6_rests_23 : decode cX6_rests 23 = .ok (.iload_n 3, 1) := by decide +kernel
theorem dX6_rests_24 : decode cX6_rests 24 = .ok (.i2l, 1) := by decide +kernel
theorem dX6_rests_25 : decode cX6_rests 25 = .ok (.lconst 0, 1) := by decide +kernel
theorem dX6_rests_26 : decode cX6_rests 26 = .ok (.lconst 1, 1) := by decide +kernel
theorem dX6_rests_27 : decode cX6_rests 27 = .ok (.invokestatic 53, 3) := by decide +kernel
theorem dX6_rests_30 : decode cX6_rests 30 = .ok (.ifCond .ne 6, 3) := by decide +kernel
theorem dX6_rests_33 : decode cX6_rests 33 = .ok (.bipush (-2), 2) := by decide +kernel
theorem dX6_rests_35 : decode cX6_rests 35 = .ok (.ireturn, 1) := by decide +kernel
theorem dX6_rests_36 : decode cX6_rests 36 = .ok (.iconst 0, 1) := by decide +kernel
theorem dX6_rests_37 : decode cX6_rests 37 = .ok (.istore 4, 2) := by decide +kernel
theorem dX6_rests_39 : decode cX6_rests 39 = .ok (.bipush (-9), 2) := by decide +kernel
theorem dX6_rests_41 : decode cX6_rests 41 = .ok (.istore 5, 2) := by decide +kernel
theorem dX6_rests_43 : decode cX6_rests 43 = .ok (.iconst 0, 1) := by decide +kernel
theorem dX6_rests_44 : decode cX6_rests 44 = .ok (.istore 6, 2) := by decide +kernel
theorem dX6_rests_46 : decode cX6_rests 46 = .ok (.iload 6, 2) := by decide +kernel
theorem dX6_rests_48 : decode cX6_rests 48 = .ok (.bipush 25, 2) := by decide +kernel
theorem dX6_rests_50 : decode cX6_rests 50 = .ok (.if_icmp .ge 53, 3) := by decide +kernel
theorem dX6_rests_53 : decode cX6_rests 53 = .ok (.aload_n 0, 1) := by decide +kernel
theorem dX6_rests_54 : decode cX6_rests 54 = .ok (.iload_n 1, 1) := by decide +kernel
theorem dX6_rests_55 : decode cX6_rests 55 = .ok (.iload_n 2, 1) := by decide +kernel
theorem dX6_rests_56 : decode cX6_rests 56 = .ok (.iload 6, 2) := by decide +kernel
theorem dX6_rests_58 : decode cX6_rests 58 = .ok (.iconst 5, 1) := by decide +kernel
theorem dX6_rests_59 : decode cX6_rests 59 = .ok (.idiv, 1) := by decide +kernel
theorem dX6_rests_60 : decode cX6_rests 60 = .ok (.iload 6, 2) := by decide +kernel
theorem dX6_rests_62 : decode cX6_rests 62 = .ok (.iconst 5, 1) := by decide +kernel
theorem dX6_rests_63 : decode cX6_rests 63 = .ok (.irem, 1) := by decide +kernel
theorem dX6_rests_64 : decode cX6_rests 64 = .ok (.invokevirtual 189, 3) := by decide +kernel
theorem dX6_rests_67 : decode cX6_rests 67 = .ok (.ifCond .eq 30, 3) := by decide +kernel
theorem dX6_rests_70 : decode cX6_rests 70 = .ok (.iload 4, 2) := by decide +kernel
theorem dX6_rests_72 : decode cX6_rests 72 = .ok (.ifCond .ne 18, 3) := by decide +kernel
theorem dX6_rests_75 : decode cX6_rests 75 = .ok (.bipush 10, 2) := by decide +kernel
theorem dX6_rests_77 : decode cX6_rests 77 = .ok (.iload 6, 2) := by decide +kernel
theorem dX6_rests_79 : decode cX6_rests 79 = .ok (.iconst 5, 1) := by decide +kernel
theorem dX6_rests_80 : decode cX6_rests 80 = .ok (.idiv, 1) := by decide +kernel
theorem dX6_rests_81 : decode cX6_rests 81 = .ok (.imul, 1) := by decide +kernel
theorem dX6_rests_82 : decode cX6_rests 82 = .ok (.iload 6, 2) := by decide +kernel
theorem dX6_rests_84 : decode cX6_rests 84 = .ok (.iconst 5, 1) := by decide +kernel
theorem dX6_rests_85 : decode cX6_rests 85 = .ok (.irem, 1) := by decide +kernel
theorem dX6_rests_86 : decode cX6_rests 86 = .ok (.iadd, 1) := by decide +kernel
theorem dX6_rests_87 : decode cX6_rests 87 = .ok (.goto 5, 3) := by decide +kernel
theorem dX6_rests_90 : decode cX6_rests 90 = .ok (.iload 5, 2) := by decide +kernel
theorem dX6_rests_92 : decode cX6_rests 92 = .ok (.istore 5, 2) := by decide +kernel
theorem dX6_rests_94 : decode cX6_rests 94 = .ok (.iinc 4 1, 3) := by decide +kernel
theorem dX6_rests_97 : decode cX6_rests 97 = .ok (.iinc 6 1, 3) := by decide +kernel
theorem dX6_rests_100 : decode cX6_rests 100 = .ok (.goto (-54), 3) := by decide +kernel
theorem dX6_rests_103 : decode cX6_rests 103 = .ok (.iload_n 3, 1) := by decide +kernel
theorem dX6_rests_104 : decode cX6_rests 104 = .ok (.ifCond .ne 8, 3) := by decide +kernel
theorem dX6_rests_107 : decode cX6_rests 107 = .ok (.iload 4, 2) := by decide +kernel
theorem dX6_rests_109 : decode cX6_rests 109 = .ok (.goto 5, 3) := by decide +kernel
theorem dX6_rests_112 : decode cX6_rests 112 = .ok (.iload 5, 2) := by decide +kernel
theorem dX6_rests_114 : decode cX6_rests 114 = .ok (.ireturn, 1) := by decide +kernel
theorem dX6_power_0 : decode cX6_power 0 = .ok (.iconst 1, 1) := by decide +kernel
theorem dX6_power_1 : decode cX6_power 1 = .ok (.istore_n 2, 1) := by decide +kernel
theorem dX6_power_2 : decode cX6_power 2 = .ok (.iconst 0, 1) := by decide +kernel
theorem dX6_power_3 : decode cX6_power 3 = .ok (.istore_n 3, 1) := by decide +kernel
theorem dX6_power_4 : decode cX6_power 4 = .ok (.iload_n 3, 1) := by decide +kernel
theorem dX6_power_5 : decode cX6_power 5 = .ok (.iload_n 1, 1) := by decide +kernel
theorem dX6_power_6 : decode cX6_power 6 = .ok (.if_icmp .ge 13, 3) := by decide +kernel
theorem dX6_power_9 : decode cX6_power 9 = .ok (.iload_n 2, 1) := by decide +kernel
theorem dX6_power_10 : decode cX6_power 10 = .ok (.iload_n 0, 1) := by decide +kernel
theorem dX6_power_11 : decode cX6_power 11 = .ok (.imul, 1) := by decide +kernel
theorem dX6_power_12 : decode cX6_power 12 = .ok (.istore_n 2, 1) := by decide +kernel
theorem dX6_power_13 : decode cX6_power 13 = .ok (.iinc 3 1, 3) := by decide +kernel
theorem dX6_power_16 : decode cX6_power 16 = .ok (.goto (-12), 3) := by decide +kernel
theorem dX6_power_19 : decode cX6_power 19 = .ok (.iload_n 2, 1) := by decide +kernel
theorem dX6_power_20 : decode cX6_power 20 = .ok (.ireturn, 1) := by decide +kernel
set_option maxRecDepth 20000 in
theorem ggX6_coins_X6_in : GoodIn wsX6_coins wsX6_in := goodIn_r _ [6] (by decide +kernel) (by decide +kernel)
set_option maxRecDepth 20000 in
theorem gX6_coins_X6_in : GoodIn wsX6_coins (va_wsS RX6 53 yX6_in wsX6_in) := goodIn_app (goodIn_of _ (by decide +kernel)) ggX6_coins_X6_in
set_option maxRecDepth 20000 in
theorem ggX6_coins_X6_ones : GoodIn wsX6_coins wsX6_ones := goodIn_r _ [9] (by decide +kernel) (by decide +kernel)
set_option maxRecDepth 20000 in
theorem gX6_coins_X6_ones : GoodIn wsX6_coins (va_wsS RX6 102 yX6_ones wsX6_ones) := goodIn_app (goodIn_of _ (by decide +kernel)) ggX6_coins_X6_ones
set_option maxRecDepth 20000 in
theorem ggX6_coins_X6_power : GoodIn wsX6_coins wsX6_power := goodIn_r _ [12] (by decide +kernel) (by decide +kernel)
set_option maxRecDepth 20000 in
theorem gX6_coins_X6_power : GoodIn wsX6_coins (va_wsS RX6 195 yX6_power wsX6_power) := goodIn_app (goodIn_of _ (by decide +kernel)) ggX6_coins_X6_power
set_option maxRecDepth 20000 in
theorem ggX6_coins_X6_endOf : GoodIn wsX6_coins wsX6_endOf := goodIn_r _ [16, 17, 18, 19, 5, 20, 2, 21, 22, 23, 24, 25, 26, 27, 28, 29, 30, 31, 32, 33, 34, 7, 8, 9, 35, 36, 37, 38, 39, 40, 41, 42, 43, 44, 45, 46, 47, 48, 49, 50, 51, 52, 53, 54, 55, 56, 60, 61, 62, 63, 64, 65, 66, 67, 68, 69, 70, 71, 72, 73, 74, 75, 76, 77, 78, 79, 80, 81, 82, 83] (by decide +kernel) (by decide +kernel)
set_option maxRecDepth 20000 in
theorem gX6_coins_X6_endOf : GoodIn wsX6_coins (wsV RX6 178 RX6 yX6_endOf wsX6_endOf) := goodIn_app (goodIn_of _ (by decide +kernel)) ggX6_coins_X6_endOf
set_option maxRecDepth 20000 in
theorem ggX6_coins_X6_common : GoodIn wsX6_coins wsX6_common := goodIn_r _ [59] (by decide +kernel) (by decide +kernel)
set_option maxRecDepth 20000 in
theorem gX6_coins_X6_common : GoodIn wsX6_coins (va_wsS RX6 181 yX6_common wsX6_common) := goodIn_app (goodIn_of _ (by decide +kernel)) ggX6_coins_X6_common
theorem dX6_coins_0 : decode cX6_coins 0 = .ok (.iload_n 1, 1) := by decide +kernel
theorem dX6_coins_1 : decode cX6_coins 1 = .ok (.i2l, 1) := by decide +kernel
theorem dX6_coins_2 : decode cX6_coins 2 = .ok (.lconst 0, 1) := by decide +kernel
theorem dX6_coins_3 : decode cX6_coins 3 = .ok (.lconst 1, 1) := by decide +kernel
theorem dX6_coins_4 : decode cX6_coins 4 = .ok (.invokestatic 53, 3) := by decide +kernel
theorem dX6_coins_7 : decode cX6_coins 7 = .ok (.ifCond .ne 9, 3) := by decide +kernel
theorem dX6_coins_10 : decode cX6_coins 10 = .ok (.iload_n 1, 1) := by decide +kernel
theorem dX6_coins_11 : decode cX6_coins 11 = .ok (.bipush 9, 2) := by decide +kernel
theorem dX6_coins_13 : decode cX6_coins 13 = .ok (.if_icmp .ne 15, 3) := by decide +kernel
theorem dX6_coins_16 : decode cX6_coins 16 = .ok (.iload_n 2, 1) := by decide +kernel
theorem dX6_coins_17 : decode cX6_coins 17 = .ok (.i2l, 1) := by decide +kernel
theorem dX6_coins_18 : decode cX6_coins 18 = .ok (.lconst 0, 1) := by decide +kernel
theorem dX6_coins_19 : decode cX6_coins 19 = .ok (.ldc2_w 193, 3) := by decide +kernel
theorem dX6_coins_22 : decode cX6_coins 22 = .ok (.invokestatic 53, 3) := by decide +kernel
theorem dX6_coins_25 : decode cX6_coins 25 = .ok (.ifCond .ne 6, 3) := by decide +kernel
theorem dX6_coins_28 : decode cX6_coins 28 = .ok (.bipush (-2), 2) := by decide +kernel
theorem dX6_coins_30 : decode cX6_coins 30 = .ok (.ireturn, 1) := by decide +kernel
theorem dX6_coins_31 : decode cX6_coins 31 = .ok (.aload_n 0, 1) := by decide +kernel
theorem dX6_coins_32 : decode cX6_coins 32 = .ok (.getfield 16, 3) := by decide +kernel
theorem dX6_coins_35 : decode cX6_coins 35 = .ok (.iconst 1, 1) := by decide +kernel
theorem dX6_coins_36 : decode cX6_coins 36 = .ok (.iaload, 1) := by decide +kernel
theorem dX6_coins_37 : decode cX6_coins 37 = .ok (.istore 4, 2) := by decide +kernel
theorem dX6_coins_39 : decode cX6_coins 39 = .ok (.iconst 0, 1) := by decide +kernel
theorem dX6_coins_40 : decode cX6_coins 40 = .ok (.istore 5, 2) := by decide +kernel
theorem dX6_coins_42 : decode cX6_coins 42 = .ok (.iconst 0, 1) := by decide +kernel
theorem dX6_coins_43 : decode cX6_coins 43 = .ok (.istore 6, 2) := by decide +kernel
theorem dX6_coins_45 : decode cX6_coins 45 = .ok (.iconst 0, 1) := by decide +kernel
theorem dX6_coins_46 : decode cX6_coins 46 = .ok (.istore 7, 2) := by decide +kernel
theorem dX6_coins_48 : decode cX6_coins 48 = .ok (.iload 7, 2) := by decide +kernel
theorem dX6_coins_50 : decode cX6_coins 50 = .ok (.iload 4, 2) := by decide +kernel
theorem dX6_coins_52 : decode cX6_coins 52 = .ok (.if_icmp .gt 87, 3) := by decide +kernel
theorem dX6_coins_55 : decode cX6_coins 55 = .ok (.iload 7, 2) := by decide +kernel
theorem dX6_coins_57 : decode cX6_coins 57 = .ok (.iload 4, 2) := by decide +kernel
theorem dX6_coins_59 : decode cX6_coins 59 = .ok (.iconst (-1), 1) := by decide +kernel
theorem dX6_coins_60 : decode cX6_coins 60 = .ok (.ixor, 1) := by decide +kernel
theorem dX6_coins_61 : decode cX6_coins 61 = .ok (.iand, 1) := by decide +kernel
theorem dX6_coins_62 : decode cX6_coins 62 = .ok (.ifCond .ne 71, 3) := by decide +kernel
theorem dX6_coins_65 : decode cX6_coins 65 = .ok (.iload_n 2, 1) := by decide +kernel
theorem dX6_coins_66 : decode cX6_coins 66 = .ok (.iload 7, 2) := by decide +kernel
theorem dX6_coins_68 : decode cX6_coins 68 = .ok (.invokestatic 102, 3) := by decide +kernel
theorem dX6_coins_71 : decode cX6_coins 71 = .ok (.invokestatic 195, 3) := by decide +kernel
theorem dX6_coins_74 : decode cX6_coins 74 = .ok (.bipush 10, 2) := by decide +kernel
theorem dX6_coins_76 : decode cX6_coins 76 = .ok (.iload_n 2, 1) := by decide +kernel
theorem dX6_coins_77 : decode cX6_coins 77 = .ok (.isub, 1) := by decide +kernel
theorem dX6_coins_78 : decode cX6_coins 78 = .ok (.iload 4, 2) := by decide +kernel
theorem dX6_coins_80 : decode cX6_coins 80 = .ok (.invokestatic 102, 3) := by decide +kernel
theorem dX6_coins_83 : decode cX6_coins 83 = .ok (.iload 7, 2) := by decide +kernel
theorem dX6_coins_85 : decode cX6_coins 85 = .ok (.invokestatic 102, 3) := by decide +kernel
theorem dX6_coins_88 : decode cX6_coins 88 = .ok (.isub, 1) := by decide +kernel
theorem dX6_coins_89 : decode cX6_coins 89 = .ok (.invokestatic 195, 3) := by decide +kernel
theorem dX6_coins_92 : decode cX6_coins 92 = .ok (.imul, 1) := by decide +kernel
theorem dX6_coins_93 : decode cX6_coins 93 = .ok (.istore 8, 2) := by decide +kernel
theorem dX6_coins_95 : decode cX6_coins 95 = .ok (.iload 6, 2) := by decide +kernel
theorem dX6_coins_97 : decode cX6_coins 97 = .ok (.iload 8, 2) := by decide +kernel
theorem dX6_coins_99 : decode cX6_coins 99 = .ok (.iadd, 1) := by decide +kernel
theorem dX6_coins_100 : decode cX6_coins 100 = .ok (.istore 6, 2) := by decide +kernel
theorem dX6_coins_102 : decode cX6_coins 102 = .ok (.iload 5, 2) := by decide +kernel
theorem dX6_coins_104 : decode cX6_coins 104 = .ok (.aload_n 0, 1) := by decide +kernel
theorem dX6_coins_105 : decode cX6_coins 105 = .ok (.aload_n 0, 1) := by decide +kernel
theorem dX6_coins_106 : decode cX6_coins 106 = .ok (.getfield 16, 3) := by decide +kernel
theorem dX6_coins_109 : decode cX6_coins 109 = .ok (.iconst 0, 1) := by decide +kernel
theorem dX6_coins_110 : decode cX6_coins 110 = .ok (.iaload, 1) := by decide +kernel
theorem dX6_coins_111 : decode cX6_coins 111 = .ok (.iload 4, 2) := by decide +kernel
theorem dX6_coins_113 : decode cX6_coins 113 = .ok (.iand, 1) := by decide +kernel
theorem dX6_coins_114 : decode cX6_coins 114 = .ok (.iload 7, 2) := by decide +kernel
theorem dX6_coins_116 : decode cX6_coins 116 = .ok (.ixor, 1) := by decide +kernel
theorem dX6_coins_117 : decode cX6_coins 117 = .ok (.invokevirtual 178, 3) := by decide +kernel
theorem dX6_coins_120 : decode cX6_coins 120 = .ok (.iload_n 1, 1) := by decide +kernel
theorem dX6_coins_121 : decode cX6_coins 121 = .ok (.if_icmp .ne 8, 3) := by decide +kernel
theorem dX6_coins_124 : decode cX6_coins 124 = .ok (.iload 8, 2) := by decide +kernel
theorem dX6_coins_126 : decode cX6_coins 126 = .ok (.goto 4, 3) := by decide +kernel
theorem dX6_coins_129 : decode cX6_coins 129 = .ok (.iconst 0, 1) := by decide +kernel
theorem dX6_coins_130 : decode cX6_coins 130 = .ok (.iadd, 1) := by decide +kernel
theorem dX6_coins_131 : decode cX6_coins 131 = .ok (.istore 5, 2) := by decide +kernel
theorem dX6_coins_133 : decode cX6_coins 133 = .ok (.iinc 7 1, 3) := by decide +kernel
theorem dX6_coins_136 : decode cX6_coins 136 = .ok (.goto (-88), 3) := by decide +kernel
theorem dX6_coins_139 : decode cX6_coins 139 = .ok (.iload 5, 2) := by decide +kernel
theorem dX6_coins_141 : decode cX6_coins 141 = .ok (.iload 6, 2) := by decide +kernel
theorem dX6_coins_143 : decode cX6_coins 143 = .ok (.invokestatic 181, 3) := by decide +kernel
theorem dX6_coins_146 : decode cX6_coins 146 = .ok (.istore 7, 2) := by decide +kernel
theorem dX6_coins_148 : decode cX6_coins 148 = .ok (.iload_n 3, 1) := by decide +kernel
theorem dX6_coins_149 : decode cX6_coins 149 = .ok (.ifCond .eq 11, 3) := by decide +kernel
theorem dX6_coins_152 : decode cX6_coins 152 = .ok (.iload 5, 2) := by decide +kernel
theorem dX6_coins_154 : decode cX6_coins 154 = .ok (.iload 7, 2) := by decide +kernel
theorem dX6_coins_156 : decode cX6_coins 156 = .ok (.idiv, 1) := by decide +kernel
theorem dX6_coins_157 : decode cX6_coins 157 = .ok (.goto 8, 3) := by decide +kernel
theorem dX6_coins_160 : decode cX6_coins 160 = .ok (.iload 6, 2) := by decide +kernel
theorem dX6_coins_162 : decode cX6_coins 162 = .ok (.iload 7, 2) := by decide +kernel
theorem dX6_coins_164 : decode cX6_coins 164 = .ok (.idiv, 1) := by decide +kernel
theorem dX6_coins_165 : decode cX6_coins 165 = .ok (.ireturn, 1) := by decide +kernel
theorem dX6_seed_0 : decode cX6_seed 0 = .ok (.aload_n 0, 1) := by decide +kernel
theorem dX6_seed_1 : decode cX6_seed 1 = .ok (.getfield 198, 3) := by decide +kernel
theorem dX6_seed_4 : decode cX6_seed 4 = .ok (.lstore_n 3, 1) := by decide +kernel
theorem dX6_seed_5 : decode cX6_seed 5 = .ok (.aload_n 0, 1) := by decide +kernel
theorem dX6_seed_6 : decode cX6_seed 6 = .ok (.lload_n 1, 1) := by decide +kernel
theorem dX6_seed_7 : decode cX6_seed 7 = .ok (.putfield 198, 3) := by decide +kernel
theorem dX6_seed_10 : decode cX6_seed 10 = .ok (.lload_n 3, 1) := by decide +kernel
theorem dX6_seed_11 : decode cX6_seed 11 = .ok (.lreturn, 1) := by decide +kernel
set_option maxRecDepth 20000 in
theorem ggX6_assizes_X6_in : GoodIn wsX6_assizes wsX6_in := goodIn_r _ [10] (by decide +kernel) (by decide +kernel)
set_option maxRecDepth 20000 in
theorem gX6_assizes_X6_in : GoodIn wsX6_assizes (va_wsS RX6 53 yX6_in wsX6_in) := goodIn_app (goodIn_of _ (by decide +kernel)) ggX6_assizes_X6_in
set_option maxRecDepth 20000 in
theorem ggX6_assizes_X6_layTrial : GoodIn wsX6_assizes wsX6_layTrial := goodIn_r _ [14, 6, 49, 50, 51, 52, 53, 54, 55, 56, 57, 58, 59, 60, 61, 62, 63, 64, 65, 66, 67, 68, 69, 70, 71, 72] (by decide +kernel) (by decide +kernel)
set_option maxRecDepth 20000 in
theorem gX6_assizes_X6_layTrial : GoodIn wsX6_assizes (wsV RX6 140 RX6 yX6_layTrial wsX6_layTrial) := goodIn_app (goodIn_of _ (by decide +kernel)) ggX6_assizes_X6_layTrial
set_option maxRecDepth 20000 in
theorem ggX6_assizes_X6_passOn : GoodIn wsX6_assizes wsX6_passOn := goodIn_r _ [18, 6, 19, 20, 21, 22, 9, 23, 24, 25, 26, 27, 28, 29, 30, 31, 32, 33, 34, 35, 36, 37, 38, 39, 40, 41, 42, 43, 44, 49, 50, 51, 52, 53, 54, 55, 56, 57, 58, 59, 60, 61, 62, 63, 64, 65, 66, 67, 68, 69, 70, 71, 72] (by decide +kernel) (by decide +kernel)
set_option maxRecDepth 20000 in
theorem gX6_assizes_X6_passOn : GoodIn wsX6_assizes (wsV RX6 128 RX6 yX6_passOn wsX6_passOn) := goodIn_app (goodIn_of _ (by decide +kernel)) ggX6_assizes_X6_passOn
set_option maxRecDepth 20000 in
theorem ggX6_assizes_X6_isJuror : GoodIn wsX6_assizes wsX6_isJuror := goodIn_r _ [48, 19, 7, 8, 9, 10, 49, 50, 51, 52, 53, 54, 55, 56, 57, 58, 59, 60, 61, 62, 63, 64, 65, 66, 67, 68, 69, 70, 71, 72] (by decide +kernel) (by decide +kernel)
set_option maxRecDepth 20000 in
theorem gX6_assizes_X6_isJuror : GoodIn wsX6_assizes (wsV RX6 118 RX6 yX6_isJuror wsX6_isJuror) := goodIn_app (goodIn_of _ (by decide +kernel)) ggX6_assizes_X6_isJuror
set_option maxRecDepth 20000 in
theorem ggX6_assizes_X6_isThere : GoodIn wsX6_assizes wsX6_isThere := goodIn_r _ [31, 6, 32, 33, 9, 34, 49, 50, 51, 52, 53, 54, 55, 56, 57, 58, 59, 60, 61, 62, 63, 64, 65, 66, 67, 68, 69, 70, 71, 72] (by decide +kernel) (by decide +kernel)
set_option maxRecDepth 20000 in
theorem gX6_assizes_X6_isThere : GoodIn wsX6_assizes (wsV RX6 108 RX6 yX6_isThere wsX6_isThere) := goodIn_app (goodIn_of _ (by decide +kernel)) ggX6_assizes_X6_isThere
set_option maxRecDepth 20000 in
theorem ggX6_assizes_X6_verdict : GoodIn wsX6_assizes wsX6_verdict := goodIn_r _ [23, 6, 24, 25, 26, 9, 27, 49, 50, 51, 52, 53, 54, 55, 56, 57, 58, 59, 60, 61, 62, 63, 64, 65, 66, 67, 68, 69, 70, 71, 72] (by decide +kernel) (by decide +kernel)
set_option maxRecDepth 20000 in
theorem gX6_assizes_X6_verdict : GoodIn wsX6_assizes (wsV RX6 105 RX6 yX6_verdict wsX6_verdict) := goodIn_app (goodIn_of _ (by decide +kernel)) ggX6_assizes_X6_verdict
theorem dX6_assizes_0 : decode cX6_assizes 0 = .ok (.iload_n 1, 1) := by decide +kernel
theorem dX6_assizes_1 : decode cX6_assizes 1 = .ok (.i2l, 1) := by decide +kernel
theorem dX6_assizes_2 : decode cX6_assizes 2 = .ok (.lconst 1, 1) := by decide +kernel
theorem dX6_assizes_3 : decode cX6_assizes 3 = .ok (.ldc2_w 202, 3) := by decide +kernel
theorem dX6_assizes_6 : decode cX6_assizes 6 = .ok (.invokestatic 53, 3) := by decide +kernel
theorem dX6_assizes_9 : decode cX6_assizes 9 = .ok (.ifCond .ne 6, 3) := by decide +kernel
theorem dX6_assizes_12 : decode cX6_assizes 12 = .ok (.bipush (-2), 2) := by decide +kernel
theorem dX6_assizes_14 : decode cX6_assizes 14 = .ok (.ireturn, 1) := by decide +kernel
theorem dX6_assizes_15 : decode cX6_assizes 15 = .ok (.aload_n 0, 1) := by decide +kernel
theorem dX6_assizes_16 : decode cX6_assizes 16 = .ok (.invokevirtual 140, 3) := by decide +kernel
theorem dX6_assizes_19 : decode cX6_assizes 19 = .ok (.iconst 0, 1) := by decide +kernel
theorem dX6_assizes_20 : decode cX6_assizes 20 = .ok (.istore_n 2, 1) := by decide +kernel
theorem dX6_assizes_21 : decode cX6_assizes 21 = .ok (.iconst 0, 1) := by decide +kernel
theorem dX6_assizes_22 : decode cX6_assizes 22 = .ok (.istore_n 3, 1) := by decide +kernel
theorem dX6_assizes_23 : decode cX6_assizes 23 = .ok (.iload_n 3, 1) := by decide +kernel
theorem dX6_assizes_24 : decode cX6_assizes 24 = .ok (.iload_n 1, 1) := by decide +kernel
theorem dX6_assizes_25 : decode cX6_assizes 25 = .ok (.if_icmp .ge 105, 3) := by decide +kernel
theorem dX6_assizes_28 : decode cX6_assizes 28 = .ok (.aload_n 0, 1) := by decide +kernel
theorem dX6_assizes_29 : decode cX6_assizes 29 = .ok (.aload_n 0, 1) := by decide +kernel
theorem dX6_assizes_30 : decode cX6_assizes 30 = .ok (.getfield 198, 3) := by decide +kernel
theorem dX6_assizes_33 : decode cX6_assizes 33 = .ok (.ldc2_w 204, 3) := by decide +kernel
theorem dX6_assizes_36 : decode cX6_assizes 36 = .ok (.lmul, 1) := by decide +kernel
theorem dX6_assizes_37 : decode cX6_assizes 37 = .ok (.ldc2_w 206, 3) := by decide +kernel
theorem dX6_assizes_40 : decode cX6_assizes 40 = .ok (.ladd, 1) := by decide +kernel
theorem dX6_assizes_41 : decode cX6_assizes 41 = .ok (.putfield 198, 3) := by decide +kernel
theorem dX6_assizes_44 : decode cX6_assizes 44 = .ok (.aload_n 0, 1) := by decide +kernel
theorem dX6_assizes_45 : decode cX6_assizes 45 = .ok (.getfield 198, 3) := by decide +kernel
theorem dX6_assizes_48 : decode cX6_assizes 48 = .ok (.bipush 33, 2) := by decide +kernel
theorem dX6_assizes_50 : decode cX6_assizes 50 = .ok (.lushr, 1) := by decide +kernel
theorem dX6_assizes_51 : decode cX6_assizes 51 = .ok (.ldc2_w 66, 3) := by decide +kernel
theorem dX6_assizes_54 : decode cX6_assizes 54 = .ok (.lrem, 1) := by decide +kernel
theorem dX6_assizes_55 : decode cX6_assizes 55 = .ok (.l2i, 1) := by decide +kernel
theorem dX6_assizes_56 : decode cX6_assizes 56 = .ok (.istore 4, 2) := by decide +kernel
theorem dX6_assizes_58 : decode cX6_assizes 58 = .ok (.iload 4, 2) := by decide +kernel
theorem dX6_assizes_60 : decode cX6_assizes 60 = .ok (.iconst 5, 1) := by decide +kernel
theorem dX6_assizes_61 : decode cX6_assizes 61 = .ok (.if_icmp .le 12, 3) := by decide +kernel
theorem dX6_assizes_64 : decode cX6_assizes 64 = .ok (.aload_n 0, 1) := by decide +kernel
theorem dX6_assizes_65 : decode cX6_assizes 65 = .ok (.iconst 1, 1) := by decide +kernel
theorem dX6_assizes_66 : decode cX6_assizes 66 = .ok (.invokevirtual 128, 3) := by decide +kernel
theorem dX6_assizes_69 : decode cX6_assizes 69 = .ok (.pop, 1) := by decide +kernel
theorem dX6_assizes_70 : decode cX6_assizes 70 = .ok (.goto 36, 3) := by decide +kernel
theorem dX6_assizes_73 : decode cX6_assizes 73 = .ok (.aload_n 0, 1) := by decide +kernel
theorem dX6_assizes_74 : decode cX6_assizes 74 = .ok (.iload 4, 2) := by decide +kernel
theorem dX6_assizes_76 : decode cX6_assizes 76 = .ok (.invokevirtual 118, 3) := by decide +kernel
theorem dX6_assizes_79 : decode cX6_assizes 79 = .ok (.ifCond .eq 27, 3) := by decide +kernel
theorem dX6_assizes_82 : decode cX6_assizes 82 = .ok (.aload_n 0, 1) := by decide +kernel
theorem dX6_assizes_83 : decode cX6_assizes 83 = .ok (.iconst 1, 1) := by decide +kernel
theorem dX6_assizes_84 : decode cX6_assizes 84 = .ok (.iload 4, 2) := by decide +kernel
theorem dX6_assizes_86 : decode cX6_assizes 86 = .ok (.invokevirtual 108, 3) := by decide +kernel
theorem dX6_assizes_89 : decode cX6_assizes 89 = .ok (.ifCond .eq 17, 3) := by decide +kernel
theorem dX6_assizes_92 : decode cX6_assizes 92 = .ok (.aload_n 0, 1) := by decide +kernel
theorem dX6_assizes_93 : decode cX6_assizes 93 = .ok (.getfield 16, 3) := by decide +kernel
theorem dX6_assizes_96 : decode cX6_assizes 96 = .ok (.bipush 15, 2) := by decide +kernel
theorem dX6_assizes_98 : decode cX6_assizes 98 = .ok (.dup2, 1) := by decide +kernel
theorem dX6_assizes_99 : decode cX6_assizes 99 = .ok (.iaload, 1) := by decide +kernel
theorem dX6_assizes_100 : decode cX6_assizes 100 = .ok (.iconst 1, 1) := by decide +kernel
theorem dX6_assizes_101 : decode cX6_assizes 101 = .ok (.iload 4, 2) := by decide +kernel
theorem dX6_assizes_103 : decode cX6_assizes 103 = .ok (.ishl, 1) := by decide +kernel
theorem dX6_assizes_104 : decode cX6_assizes 104 = .ok (.ixor, 1) := by decide +kernel
theorem dX6_assizes_105 : decode cX6_assizes 105 = .ok (.iastore, 1) := by decide +kernel
theorem dX6_assizes_106 : decode cX6_assizes 106 = .ok (.iload_n 2, 1) := by decide +kernel
theorem dX6_assizes_107 : decode cX6_assizes 107 = .ok (.aload_n 0, 1) := by decide +kernel
theorem dX6_assizes_108 : decode cX6_assizes 108 = .ok (.iconst 1, 1) := by decide +kernel
theorem dX6_assizes_109 : decode cX6_assizes 109 = .ok (.invokevirtual 105, 3) := by decide +kernel
theorem dX6_assizes_112 : decode cX6_assizes 112 = .ok (.bipush 9, 2) := by decide +kernel
theorem dX6_assizes_114 : decode cX6_assizes 114 = .ok (.if_icmp .ne 7, 3) := by decide +kernel
theorem dX6_assizes_117 : decode cX6_assizes 117 = .ok (.iconst 0, 1) := by decide +kernel
theorem dX6_assizes_118 : decode cX6_assizes 118 = .ok (.goto 4, 3) := by decide +kernel
theorem dX6_assizes_121 : decode cX6_assizes 121 = .ok (.iconst 1, 1) := by decide +kernel
theorem dX6_assizes_122 : decode cX6_assizes 122 = .ok (.iadd, 1) := by decide +kernel
theorem dX6_assizes_123 : decode cX6_assizes 123 = .ok (.istore_n 2, 1) := by decide +kernel
theorem dX6_assizes_124 : decode cX6_assizes 124 = .ok (.iinc 3 1, 3) := by decide +kernel
theorem dX6_assizes_127 : decode cX6_assizes 127 = .ok (.goto (-104), 3) := by decide +kernel
theorem dX6_assizes_130 : decode cX6_assizes 130 = .ok (.iload_n 2, 1) := by decide +kernel
theorem dX6_assizes_131 : decode cX6_assizes 131 = .ok (.ireturn, 1) := by decide +kernel
set_option maxRecDepth 20000 in
theorem ggX6_keep_X6_in : GoodIn wsX6_keep wsX6_in := goodIn_r _ [7] (by decide +kernel) (by decide +kernel)
set_option maxRecDepth 20000 in
theorem gX6_keep_X6_in : GoodIn wsX6_keep (va_wsS RX6 53 yX6_in wsX6_in) := goodIn_app (goodIn_of _ (by decide +kernel)) ggX6_keep_X6_in
theorem dX6_keep_0 : decode cX6_keep 0 = .ok (.iload_n 1, 1) := by decide +kernel
theorem dX6_keep_1 : decode cX6_keep 1 = .ok (.i2l, 1) := by decide +kernel
theorem dX6_keep_2 : decode cX6_keep 2 = .ok (.lconst 0, 1) := by decide +kernel
theorem dX6_keep_3 : decode cX6_keep 3 = .ok (.lconst 1, 1) := by decide +kernel
theorem dX6_keep_4 : decode cX6_keep 4 = .ok (.invokestatic 53, 3) := by decide +kernel
theorem dX6_keep_7 : decode cX6_keep 7 = .ok (.ifCond .ne 5, 3) := by decide +kernel
theorem dX6_keep_10 : decode cX6_keep 10 = .ok (.iconst (-1), 1) := by decide +kernel
theorem dX6_keep_11 : decode cX6_keep 11 = .ok (.ireturn, 1) := by decide +kernel
theorem dX6_keep_12 : decode cX6_keep 12 = .ok (.aload_n 0, 1) := by decide +kernel
theorem dX6_keep_13 : decode cX6_keep 13 = .ok (.getfield 40, 3) := by decide +kernel
theorem dX6_keep_16 : decode cX6_keep 16 = .ok (.iload_n 1, 1) := by decide +kernel
theorem dX6_keep_17 : decode cX6_keep 17 = .ok (.iconst 1, 1) := by decide +kernel
theorem dX6_keep_18 : decode cX6_keep 18 = .ok (.bastore, 1) := by decide +kernel
theorem dX6_keep_19 : decode cX6_keep 19 = .ok (.iconst 0, 1) := by decide +kernel
theorem dX6_keep_20 : decode cX6_keep 20 = .ok (.istore_n 2, 1) := by decide +kernel
theorem dX6_keep_21 : decode cX6_keep 21 = .ok (.iload_n 2, 1) := by decide +kernel
theorem dX6_keep_22 : decode cX6_keep 22 = .ok (.bipush 15, 2) := by decide +kernel
theorem dX6_keep_24 : decode cX6_keep 24 = .ok (.if_icmp .ge 26, 3) := by decide +kernel
theorem dX6_keep_27 : decode cX6_keep 27 = .ok (.aload_n 0, 1) := by decide +kernel
theorem dX6_keep_28 : decode cX6_keep 28 = .ok (.getfield 44, 3) := by decide +kernel
theorem dX6_keep_31 : decode cX6_keep 31 = .ok (.bipush 15, 2) := by decide +kernel
theorem dX6_keep_33 : decode cX6_keep 33 = .ok (.iload_n 1, 1) := by decide +kernel
theorem dX6_keep_34 : decode cX6_keep 34 = .ok (.imul, 1) := by decide +kernel
theorem dX6_keep_35 : decode cX6_keep 35 = .ok (.iload_n 2, 1) := by decide +kernel
theorem dX6_keep_36 : decode cX6_keep 36 = .ok (.iadd, 1) := by decide +kernel
theorem dX6_keep_37 : decode cX6_keep 37 = .ok (.aload_n 0, 1) := by decide +kernel
theorem dX6_keep_38 : decode cX6_keep 38 = .ok (.getfield 16, 3) := by decide +kernel
theorem dX6_keep_41 : decode cX6_keep 41 = .ok (.iload_n 2, 1) := by decide +kernel
theorem dX6_keep_42 : decode cX6_keep 42 = .ok (.iaload, 1) := by decide +kernel
theorem dX6_keep_43 : decode cX6_keep 43 = .ok (.iastore, 1) := by decide +kernel
theorem dX6_keep_44 : decode cX6_keep 44 = .ok (.iinc 2 1, 3) := by decide +kernel
theorem dX6_keep_47 : decode cX6_keep 47 = .ok (.goto (-26), 3) := by decide +kernel
theorem dX6_keep_50 : decode cX6_keep 50 = .ok (.aload_n 0, 1) := by decide +kernel
theorem dX6_keep_51 : decode cX6_keep 51 = .ok (.getfield 16, 3) := by decide +kernel
theorem dX6_keep_54 : decode cX6_keep 54 = .ok (.iconst 2, 1) := by decide +kernel
theorem dX6_keep_55 : decode cX6_keep 55 = .ok (.iaload, 1) := by decide +kernel
theorem dX6_keep_56 : decode cX6_keep 56 = .ok (.ireturn, 1) := by decide +kernel
set_option maxRecDepth 20000 in
theorem ggX6_again_X6_in : GoodIn wsX6_again wsX6_in := goodIn_r _ [8] (by decide +kernel) (by decide +kernel)
set_option maxRecDepth 20000 in
theorem gX6_again_X6_in : GoodIn wsX6_again (va_wsS RX6 53 yX6_in wsX6_in) := goodIn_app (goodIn_of _ (by decide +kernel)) ggX6_again_X6_in
theorem dX6_again_0 : decode cX6_again 0 = .ok (.iload_n 1, 1) := by decide +kernel
theorem dX6_again_1 : decode cX6_again 1 = .ok (.i2l, 1) := by decide +kernel
theorem dX6_again_2 : decode cX6_again 2 = .ok (.lconst 0, 1) := by decide +kernel
theorem dX6_again_3 : decode cX6_again 3 = .ok (.lconst 1, 1) := by decide +kernel
theorem dX6_again_4 : decode cX6_again 4 = .ok (.invokestatic 53, 3) := by decide +kernel
theorem dX6_again_7 : decode cX6_again 7 = .ok (.ifCond .ne 5, 3) := by decide +kernel
theorem dX6_again_10 : decode cX6_again 10 = .ok (.iconst (-1), 1) := by decide +kernel
theorem dX6_again_11 : decode cX6_again 11 = .ok (.ireturn, 1) := by decide +kernel
theorem dX6_again_12 : decode cX6_again 12 = .ok (.aload_n 0, 1) := by decide +kernel
theorem dX6_again_13 : decode cX6_again 13 = .ok (.getfield 40, 3) := by decide +kernel
theorem dX6_again_16 : decode cX6_again 16 = .ok (.iload_n 1, 1) := by decide +kernel
theorem dX6_again_17 : decode cX6_again 17 = .ok (.baload, 1) := by decide +kernel
theorem dX6_again_18 : decode cX6_again 18 = .ok (.ifCond .ne 6, 3) := by decide +kernel
theorem dX6_again_21 : decode cX6_again 21 = .ok (.bipush (-3), 2) := by decide +kernel
theorem dX6_again_23 : decode cX6_again 23 = .ok (.ireturn, 1) := by decide +kernel
theorem dX6_again_24 : decode cX6_again 24 = .ok (.iconst 0, 1) := by decide +kernel
theorem dX6_again_25 : decode cX6_again 25 = .ok (.istore_n 2, 1) := by decide +kernel
theorem dX6_again_26 : decode cX6_again 26 = .ok (.iload_n 2, 1) := by decide +kernel
theorem dX6_again_27 : decode cX6_again 27 = .ok (.bipush 15, 2) := by decide +kernel
theorem dX6_again_29 : decode cX6_again 29 = .ok (.if_icmp .ge 26, 3) := by decide +kernel
theorem dX6_again_32 : decode cX6_again 32 = .ok (.aload_n 0, 1) := by decide +kernel
theorem dX6_again_33 : decode cX6_again 33 = .ok (.getfield 16, 3) := by decide +kernel
theorem dX6_again_36 : decode cX6_again 36 = .ok (.iload_n 2, 1) := by decide +kernel
theorem dX6_again_37 : decode cX6_again 37 = .ok (.aload_n 0, 1) := by decide +kernel
theorem dX6_again_38 : decode cX6_again 38 = .ok (.getfield 44, 3) := by decide +kernel
theorem dX6_again_41 : decode cX6_again 41 = .ok (.bipush 15, 2) := by decide +kernel
theorem dX6_again_43 : decode cX6_again 43 = .ok (.iload_n 1, 1) := by decide +kernel
theorem dX6_again_44 : decode cX6_again 44 = .ok (.imul, 1) := by decide +kernel
theorem dX6_again_45 : decode cX6_again 45 = .ok (.iload_n 2, 1) := by decide +kernel
theorem dX6_again_46 : decode cX6_again 46 = .ok (.iadd, 1) := by decide +kernel
theorem dX6_again_47 : decode cX6_again 47 = .ok (.iaload, 1) := by decide +kernel
theorem dX6_again_48 : decode cX6_again 48 = .ok (.iastore, 1) := by decide +kernel
theorem dX6_again_49 : decode cX6_again 49 = .ok (.iinc 2 1, 3) := by decide +kernel
theorem dX6_again_52 : decode cX6_again 52 = .ok (.goto (-26), 3) := by decide +kernel
theorem dX6_again_55 : decode cX6_again 55 = .ok (.aload_n 0, 1) := by decide +kernel
theorem dX6_again_56 : decode cX6_again 56 = .ok (.iconst 0, 1) := by decide +kernel
theorem dX6_again_57 : decode cX6_again 57 = .ok (.putfield 99, 3) := by decide +kernel
theorem dX6_again_60 : decode cX6_again 60 = .ok (.aload_n 0, 1) := by decide +kernel
theorem dX6_again_61 : decode cX6_again 61 = .ok (.getfield 16, 3) := by decide +kernel
theorem dX6_again_64 : decode cX6_again 64 = .ok (.iconst 2, 1) := by decide +kernel
theorem dX6_again_65 : decode cX6_again 65 = .ok (.iaload, 1) := by decide +kernel
theorem dX6_again_66 : decode cX6_again 66 = .ok (.ireturn, 1) := by decide +kernel
set_option maxRecDepth 20000 in
theorem ggX6_count_X6_verdict : GoodIn wsX6_count wsX6_verdict := goodIn_r _ [11, 4, 3, 12, 13, 10, 14, 15, 16, 17, 18, 19, 20, 21, 22, 23, 24, 25, 26, 27, 28, 29, 30, 31, 32, 33, 34, 35, 36, 37, 38] (by decide +kernel) (by decide +kernel)
set_option maxRecDepth 20000 in
theorem gX6_count_X6_verdict : GoodIn wsX6_count (wsV RX6 105 RX6 yX6_verdict wsX6_verdict) := goodIn_app (goodIn_of _ (by decide +kernel)) ggX6_count_X6_verdict
theorem dX6_count_0 : decode cX6_count 0 = .ok (.iload_n 1, 1) := by decide +kernel
theorem dX6_count_1 : decode cX6_count 1 = .ok (.tableswitch 110 0 8 #[51, 56, 61, 66, 73, 80, 94, 100, 105], 51) := by decide +kernel
theorem dX6_count_52 : decode cX6_count 52 = .ok (.aload_n 0, 1) := by decide +kernel
theorem dX6_count_53 : decode cX6_count 53 = .ok (.getfield 57, 3) := by decide +kernel
theorem dX6_count_56 : decode cX6_count 56 = .ok (.ireturn, 1) := by decide +kernel
theorem dX6_count_57 : decode cX6_count 57 = .ok (.aload_n 0, 1) := by decide +kernel
theorem dX6_count_58 : decode cX6_count 58 = .ok (.getfield 96, 3) := by decide +kernel
theorem dX6_count_61 : decode cX6_count 61 = .ok (.ireturn, 1) := by decide +kernel
theorem dX6_count_62 : decode cX6_count 62 = .ok (.aload_n 0, 1) := by decide +kernel
theorem dX6_count_63 : decode cX6_count 63 = .ok (.getfield 47, 3) := by decide +kernel
theorem dX6_count_66 : decode cX6_count 66 = .ok (.ireturn, 1) := by decide +kernel
theorem dX6_count_67 : decode cX6_count 67 = .ok (.aload_n 0, 1) := by decide +kernel
theorem dX6_count_68 : decode cX6_count 68 = .ok (.getfield 16, 3) := by decide +kernel
theorem dX6_count_71 : decode cX6_count 71 = .ok (.iconst 2, 1) := by decide +kernel
theorem dX6_count_72 : decode cX6_count 72 = .ok (.iaload, 1) := by decide +kernel
end
section
theorem dX6_count_73 : decode cX6_count 73 = .ok (.ireturn, 1) := by decide +kernel
theorem dX6_count_74 : decode cX6_count 74 = .ok (.aload_n 0, 1) := by decide +kernel
theorem dX6_count_75 : decode cX6_count 75 = .ok (.getfield 16, 3) := by decide +kernel
theorem dX6_count_78 : decode cX6_count 78 = .ok (.iconst 1, 1) := by decide +kernel
theorem dX6_count_79 : decode cX6_count 79 = .ok (.iaload, 1) := by decide +kernel
theorem dX6_count_80 : decode cX6_count 80 = .ok (.ireturn, 1) := by decide +kernel
theorem dX6_count_81 : decode cX6_count 81 = .ok (.aload_n 0, 1) := by decide +kernel
theorem dX6_count_82 : decode cX6_count 82 = .ok (.getfield 16, 3) := by decide +kernel
theorem dX6_count_85 : decode cX6_count 85 = .ok (.iconst 0, 1) := by decide +kernel
theorem dX6_count_86 : decode cX6_count 86 = .ok (.iaload, 1) := by decide +kernel
theorem dX6_count_87 : decode cX6_count 87 = .ok (.aload_n 0, 1) := by decide +kernel
theorem dX6_count_88 : decode cX6_count 88 = .ok (.getfield 16, 3) := by decide +kernel
theorem dX6_count_91 : decode cX6_count 91 = .ok (.iconst 1, 1) := by decide +kernel
theorem dX6_count_92 : decode cX6_count 92 = .ok (.iaload, 1) := by decide +kernel
theorem dX6_count_93 : decode cX6_count 93 = .ok (.iand, 1) := by decide +kernel
theorem dX6_count_94 : decode cX6_count 94 = .ok (.ireturn, 1) := by decide +kernel
theorem dX6_count_95 : decode cX6_count 95 = .ok (.aload_n 0, 1) := by decide +kernel
theorem dX6_count_96 : decode cX6_count 96 = .ok (.iconst 0, 1) := by decide +kernel
theorem dX6_count_97 : decode cX6_count 97 = .ok (.invokevirtual 105, 3) := by decide +kernel
theorem dX6_count_100 : decode cX6_count 100 = .ok (.ireturn, 1) := by decide +kernel
theorem dX6_count_101 : decode cX6_count 101 = .ok (.aload_n 0, 1) := by decide +kernel
theorem dX6_count_102 : decode cX6_count 102 = .ok (.getfield 99, 3) := by decide +kernel
theorem dX6_count_105 : decode cX6_count 105 = .ok (.ireturn, 1) := by decide +kernel
theorem dX6_count_106 : decode cX6_count 106 = .ok (.aload_n 0, 1) := by decide +kernel
theorem dX6_count_107 : decode cX6_count 107 = .ok (.getfield 161, 3) := by decide +kernel
theorem dX6_count_110 : decode cX6_count 110 = .ok (.ireturn, 1) := by decide +kernel
theorem dX6_count_111 : decode cX6_count 111 = .ok (.bipush (-2), 2) := by decide +kernel
theorem dX6_count_113 : decode cX6_count 113 = .ok (.ireturn, 1) := by decide +kernel
end
section
/-! base: worlds by cell numbers: cell i (i < n) lies at ad i and holds w i -/
abbrev hj_G : Type := va_G × ClassId × ClassId × ClassId
abbrev hj_ty (g : hj_G) : List (ClassId × FieldType) := [(g.2.1, .int), (g.2.2.1, .boolean), (g.2.2.2, .object RX2)]
def hj_wl (n : Nat) (ad : Nat → Nat) (w : Nat → va_E) : va_W := (List.range n).map (fun i => (ad i, w i))
abbrev hj_P (g : hj_G) (n : Nat) (ad : Nat → Nat) (w : Nat → va_E) (H : Heap) : Prop := va_P g.1 vwCl (hj_wl n ad w) H
abbrev hj_K (g : hj_G) (U : State) : Prop := va_K g.1 vwCl (hj_ty g) U
def hj_I (n : Nat) (ad : Nat → Nat) : Prop := ∀ i j, i < n → j < n → ad i = ad j → i = j
def hj_A (n : Nat) (ad : Nat → Nat) (sz : Nat) : Nat → Prop := fun q => (∃ i, i < n ∧ q = ad i) ∨ sz ≤ q
abbrev hj_S (n : Nat) (ad : Nat → Nat) (s : State) (H : Heap) (locs : List Loc) : Prop := va_S (hj_A n ad s.heap.size) s.heap H locs
theorem hj_at {n i : Nat} {ad : Nat → Nat} {w : Nat → va_E} {e : va_E} (hi : i < n) (he : w i = e) : (hj_wl n ad w)[i]? = some (ad i, e) := by
  subst he
  simp [hj_wl, List.getElem?_map, List.getElem?_range hi]
theorem hj_len {n : Nat} {ad : Nat → Nat} {w : Nat → va_E} : (hj_wl n ad w).length = n := by simp [hj_wl]
theorem hj_of {n k : Nat} {ad : Nat → Nat} {w : Nat → va_E} {q : Nat × va_E} (h : (hj_wl n ad w)[k]? = some q) : k < n ∧ q = (ad k, w k) := by
  have hk : k < n := by
    have h1 := (List.getElem?_eq_some_iff.mp h).1
    rw [hj_len] at h1
    exact h1
  rw [hj_at hk rfl] at h
  exact ⟨hk, (Option.some.inj h).symm⟩
theorem hj_set {n i : Nat} {ad : Nat → Nat} {w : Nat → va_E} (hi : i < n) (e : va_E) : (hj_wl n ad w).set i (ad i, e) = hj_wl n ad (va_up w i e) := by
  apply List.ext_getElem?
  intro j
  by_cases hj : j = i
  · subst hj
    rw [List.getElem?_set_self (by rw [hj_len]; exact hi), hj_at hi (va_up_self _ _ _)]
  · rw [List.getElem?_set_ne (Ne.symm hj)]
    by_cases hl : j < n
    · rw [hj_at hl rfl, hj_at hl (va_up_ne _ _ hj)]
    · rw [List.getElem?_eq_none (by rw [hj_len]; omega), List.getElem?_eq_none (by rw [hj_len]; omega)]
theorem hj_D {n sz : Nat} {ad : Nat → Nat} {w : Nat → va_E} (hI : hj_I n ad) : va_D (hj_A n ad sz) (hj_wl n ad w) := by
  refine ⟨fun i j x y hx hy hxy => ?_, fun k q hk => ?_⟩
  · obtain ⟨h1, rfl⟩ := hj_of hx
    obtain ⟨h2, rfl⟩ := hj_of hy
    exact hI i j h1 h2 hxy
  · obtain ⟨h1, rfl⟩ := hj_of hk
    exact Or.inl ⟨k, h1, rfl⟩
theorem hj_A_sub {n sz sz' : Nat} {ad : Nat → Nat} (h : sz ≤ sz') {q : Nat} (hq : hj_A n ad sz' q) : hj_A n ad sz q := by
  rcases hq with h1 | h1
  · exact Or.inl h1
  · exact Or.inr (Nat.le_trans h h1)
theorem hj_P_eq {g : hj_G} {n : Nat} {ad : Nat → Nat} {w w' : Nat → va_E} {H : Heap} (h : hj_P g n ad w H) (e : w = w') : hj_P g n ad w' H := e ▸ h
/-- what holds in a method's body from its entry on -/
def hj_C (p : Program) (s : State) (m : MethodId) (args : Array Value) (meth : Method) (c : Code) (bytes : ByteArray) (own : String) (ws : List Cond) (maxL : Nat) (ret : Option FieldType) : Prop :=
  p.tables.exec = Jvm.exec ∧ c.code = bytes ∧ meth.sig.returnType = ret ∧ c.maxLocals = maxL ∧ s.vm.findClass own = some m.cls ∧ (∀ w ∈ ws, w.before args s = true) ∧ meth.locks = false
abbrev hj_X : Type := (Nat → Prop) → State → Prop
def hj_X0 : hj_X := fun _ _ => True
def hj_pre (g : hj_G) (n : Nat) (ad : Nat → Nat) (w : Nat → va_E) (X : hj_X) (sz : Nat) : State → Prop := fun U => U.heap.size = sz ∧ hj_P g n ad w U.heap ∧ hj_K g U ∧ X (hj_A n ad sz) U
def hj_post (g : hj_G) (n : Nat) (ad : Nat → Nat) (w : Nat → va_E) : Unit → State → Prop := fun _ t => hj_P g n ad w t.heap ∧ hj_K g t
/-- contracts: an int, nothing, a long -/
def hj_QI (g : hj_G) (n : Nat) (ad : Nat → Nat) (w : Nat → va_E) (r : Int32) (sz : Nat) : Array Value → State → Outcome → State → Prop := va_Qi (fun (r' : Int32) (_ : Unit) => r' = r) (hj_post g n ad w) (hj_A n ad sz)
def hj_QV (g : hj_G) (n : Nat) (ad : Nat → Nat) (w : Nat → va_E) (sz : Nat) : Array Value → State → Outcome → State → Prop := va_Qv (fun (_ : Unit) => True) (hj_post g n ad w) (hj_A n ad sz)
def hj_QL (g : hj_G) (n : Nat) (ad : Nat → Nat) (w : Nat → va_E) (r : Int64) (sz : Nat) : Array Value → State → Outcome → State → Prop := va_Ql (fun (r' : Int64) (_ : Unit) => r' = r) (hj_post g n ad w) (hj_A n ad sz)
def hj_MI (l : Launch) (y : MethodName) (ws : List Cond) (rm : Room) (g : hj_G) (n : Nat) (ad : Nat → Nat) (X : hj_X) (av : List Value) (w : Nat → va_E) (r : Int32) (w' : Nat → va_E) : Prop :=
  ∀ sz, Met l y ws rm (va_Pc av (hj_pre g n ad w X sz)) (hj_QI g n ad w' r sz) 0 0 (hj_A n ad sz)
def hj_MV (l : Launch) (y : MethodName) (ws : List Cond) (rm : Room) (g : hj_G) (n : Nat) (ad : Nat → Nat) (X : hj_X) (av : List Value) (w : Nat → va_E) (w' : Nat → va_E) : Prop :=
  ∀ sz, Met l y ws rm (va_Pc av (hj_pre g n ad w X sz)) (hj_QV g n ad w' sz) 0 0 (hj_A n ad sz)
def hj_ML (l : Launch) (y : MethodName) (ws : List Cond) (rm : Room) (g : hj_G) (n : Nat) (ad : Nat → Nat) (X : hj_X) (av : List Value) (w : Nat → va_E) (r : Int64) (w' : Nat → va_E) : Prop :=
  ∀ sz, Met l y ws rm (va_Pc av (hj_pre g n ad w X sz)) (hj_QL g n ad w' r sz) 0 0 (hj_A n ad sz)
/-- a contract out of a walk of the body -/
theorem hj_ofI {l : Launch} {y : MethodName} {ws ws' : List Cond} {rm : Room} {g : hj_G} {n : Nat} {ad : Nat → Nat} {X : hj_X} {av : List Value} {w w' : Nat → va_E} {r : Int32} {cc : ByteArray} {maxL : Nat} {ret : Option FieldType}
    (hy : plainName y.cls = true) (hw : ws = Cond.code y cc maxL ret :: ws') (hav : (lg_sl av).length ≤ maxL)
    (body : ∀ p e s m args below meth c ls, hj_C p s m args meth c cc y.cls ws maxL ret → hj_P g n ad w s.heap → hj_K g s → X (hj_A n ad s.heap.size) s → lv_has ls maxL (lv_args 0 av) →
      W p l e rm s m args below meth c s.heap [] 0 0 (MQ below (hj_QI g n ad w' r s.heap.size) args s 0 0 (hj_A n ad s.heap.size)) (F0 m 0 ls [])) : hj_MI l y ws rm g n ad X av w r w' := by
  intro sz
  refine Met.ofW (cc := cc) (maxL := maxL) (ret := ret) hy hw ?_
  intro p e s m args below meth c s₁ B hml hv
  obtain ⟨rfl, rfl, hP, hK, hX⟩ := hv
  rw [lg_entry_eq]
  exact body p e s m _ below meth c _ ⟨B.exec, B.bytes, B.returns, hml, findClass_of_methodNamed B.named, atoms_spec (ws := ws) B.pre, B.notSynchronized⟩ hP hK hX (lv_entry av hav)
theorem hj_ofV {l : Launch} {y : MethodName} {ws ws' : List Cond} {rm : Room} {g : hj_G} {n : Nat} {ad : Nat → Nat} {X : hj_X} {av : List Value} {w w' : Nat → va_E} {cc : ByteArray} {maxL : Nat} {ret : Option FieldType}
    (hy : plainName y.cls = true) (hw : ws = Cond.code y cc maxL ret :: ws') (hav : (lg_sl av).length ≤ maxL)
    (body : ∀ p e s m args below meth c ls, hj_C p s m args meth c cc y.cls ws maxL ret → hj_P g n ad w s.heap → hj_K g s → X (hj_A n ad s.heap.size) s → lv_has ls maxL (lv_args 0 av) →
      W p l e rm s m args below meth c s.heap [] 0 0 (MQ below (hj_QV g n ad w' s.heap.size) args s 0 0 (hj_A n ad s.heap.size)) (F0 m 0 ls [])) : hj_MV l y ws rm g n ad X av w w' := by
  intro sz
  refine Met.ofW (cc := cc) (maxL := maxL) (ret := ret) hy hw ?_
  intro p e s m args below meth c s₁ B hml hv
  obtain ⟨rfl, rfl, hP, hK, hX⟩ := hv
  rw [lg_entry_eq]
  exact body p e s m _ below meth c _ ⟨B.exec, B.bytes, B.returns, hml, findClass_of_methodNamed B.named, atoms_spec (ws := ws) B.pre, B.notSynchronized⟩ hP hK hX (lv_entry av hav)
theorem hj_ofL {l : Launch} {y : MethodName} {ws ws' : List Cond} {rm : Room} {g : hj_G} {n : Nat} {ad : Nat → Nat} {X : hj_X} {av : List Value} {w w' : Nat → va_E} {r : Int64} {cc : ByteArray} {maxL : Nat} {ret : Option FieldType}
    (hy : plainName y.cls = true) (hw : ws = Cond.code y cc maxL ret :: ws') (hav : (lg_sl av).length ≤ maxL)
    (body : ∀ p e s m args below meth c ls, hj_C p s m args meth c cc y.cls ws maxL ret → hj_P g n ad w s.heap → hj_K g s → X (hj_A n ad s.heap.size) s → lv_has ls maxL (lv_args 0 av) →
      W p l e rm s m args below meth c s.heap [] 0 0 (MQ below (hj_QL g n ad w' r s.heap.size) args s 0 0 (hj_A n ad s.heap.size)) (F0 m 0 ls [])) : hj_ML l y ws rm g n ad X av w r w' := by
  intro sz
  refine Met.ofW (cc := cc) (maxL := maxL) (ret := ret) hy hw ?_
  intro p e s m args below meth c s₁ B hml hv
  obtain ⟨rfl, rfl, hP, hK, hX⟩ := hv
  rw [lg_entry_eq]
  exact body p e s m _ below meth c _ ⟨B.exec, B.bytes, B.returns, hml, findClass_of_methodNamed B.named, atoms_spec (ws := ws) B.pre, B.notSynchronized⟩ hP hK hX (lv_entry av hav)
section HJA
variable {p : Program} {l : Launch} {e : Env} {R : Room} {s : State} {m : MethodId} {args : Array Value} {below : List Frame} {meth : Method} {c : Code} {H : Heap} {locs : List Loc} {cells slots : Nat} {Q : State → Prop}
variable {cc : ByteArray} {pc : Nat} {ls : Array Slot} {rest : List Value} {g : hj_G} {n : Nat} {ad : Nat → Nat} {w : Nat → va_E}
theorem hj_reti {ws : List Cond} {own : String} {maxL : Nat} {r : Int32} (C : hj_C p s m args meth c cc own ws maxL (some .int)) (hP : hj_P g n ad w H) (hK : hj_K g s) (hS : hj_S n ad s H locs) (hdg : decode cc pc = .ok (.ireturn, 1)) :
    W p l e R s m args below meth c H locs 0 0 (MQ below (hj_QI g n ad w r s.heap.size) args s 0 0 (hj_A n ad s.heap.size)) (F0 m pc ls [.int r]) := by
  obtain ⟨hx, hb, hr, -, -, -, hlocks⟩ := C
  exact W.iret hx hb hr (fun t ht hW => ⟨⟨r, (), rfl, rfl, by rw [ht]; exact hP, va_K.moved hW.alike hK⟩, hS.F ht⟩) hS.2.2 hdg
theorem hj_retz {ws : List Cond} {own : String} {maxL : Nat} {r : Int32} (hz : r = 0 ∨ r = 1) (C : hj_C p s m args meth c cc own ws maxL (some .boolean)) (hP : hj_P g n ad w H) (hK : hj_K g s) (hS : hj_S n ad s H locs) (hdg : decode cc pc = .ok (.ireturn, 1)) :
    W p l e R s m args below meth c H locs 0 0 (MQ below (hj_QI g n ad w r s.heap.size) args s 0 0 (hj_A n ad s.heap.size)) (F0 m pc ls [.int r]) := by
  obtain ⟨hx, hb, hr, -, -, -, hlocks⟩ := C
  exact W.zret hx hb hr (by rcases hz with rfl | rfl <;> rfl) (fun t ht hW => ⟨⟨r, (), rfl, rfl, by rw [ht]; exact hP, va_K.moved hW.alike hK⟩, hS.F ht⟩) hS.2.2 hdg
theorem hj_retv {ws : List Cond} {own : String} {maxL : Nat} (C : hj_C p s m args meth c cc own ws maxL none) (hP : hj_P g n ad w H) (hK : hj_K g s) (hS : hj_S n ad s H locs) (hdg : decode cc pc = .ok (.return_, 1)) :
    W p l e R s m args below meth c H locs 0 0 (MQ below (hj_QV g n ad w s.heap.size) args s 0 0 (hj_A n ad s.heap.size)) (F0 m pc ls []) := by
  obtain ⟨hx, hb, hr, -, -, -, hlocks⟩ := C
  exact W.vret hx hb hr (fun t ht hW => ⟨⟨(), rfl, trivial, by rw [ht]; exact hP, va_K.moved hW.alike hK⟩, hS.F ht⟩) hS.2.2 hdg
theorem hj_retl {ws : List Cond} {own : String} {maxL : Nat} {r : Int64} (C : hj_C p s m args meth c cc own ws maxL (some .long)) (hP : hj_P g n ad w H) (hK : hj_K g s) (hS : hj_S n ad s H locs) (hdg : decode cc pc = .ok (.lreturn, 1)) :
    W p l e R s m args below meth c H locs 0 0 (MQ below (hj_QL g n ad w r s.heap.size) args s 0 0 (hj_A n ad s.heap.size)) (F0 m pc ls [.long r]) := by
  obtain ⟨hx, hb, hr, -, -, -, hlocks⟩ := C
  exact W.lret hx hb hr (fun t ht hW => ⟨⟨r, (), rfl, rfl, by rw [ht]; exact hP, va_K.moved hW.alike hK⟩, hS.F ht⟩) hS.2.2 hdg
theorem hj_get (hx : p.tables.exec = Jvm.exec) (hb : c.code = cc) {own C : String} {T : u_T} {N ci index : Nat} {Ts : List Cond} (hts : ∀ w ∈ Ts, w.before args s = true) (hin : ∀ w ∈ u_ws C T N, w ∈ Ts) (hown : s.vm.findClass own = some m.cls) (hK : hj_K g s) (hP : hj_P g n ad w H) {i : Nat} {fs : List Value} (hi : i < n) (hw : w i = .inr (ci, fs)) (hc : vwCl[ci]? = some (C, T, N)) (k : Nat) (hk : k < N) (hlink : Cond.fieldLink own index (T k).1 (T k).2.1 (T k).2.2.1 ∈ Ts) {v : Value} (hv : fs[k]? = some v) (hdg : decode cc pc = .ok (.getfield index, 3))
    (kk : W p l e R s m args below meth c H locs cells slots Q (F0 m (pc + 3) ls (v :: rest))) : W p l e R s m args below meth c H locs cells slots Q (F0 m pc ls (.ref (ad i) :: rest)) :=
  va_get (D := g.1) hx hb hts hin hown hK hP i (hj_at hi hw) hc k hk (hts _ hlink) (fun _ h => h) hv hdg kk
theorem hj_put (hx : p.tables.exec = Jvm.exec) (hb : c.code = cc) {own C : String} {T : u_T} {N ci index : Nat} {Ts : List Cond} (hts : ∀ w ∈ Ts, w.before args s = true) (hin : ∀ w ∈ u_ws C T N, w ∈ Ts) (ty0 : Nat → FieldType) (hty : ∀ k, k < N → parseFieldDescriptor (T k).2.2.1 = some (ty0 k)) (hnm : ∀ a, a < N → ∀ b, b < N → a ≠ b → (T a).2.1 ≠ (T b).2.1) (hown : s.vm.findClass own = some m.cls) (hK : hj_K g s) (hI : hj_I n ad) (hP : hj_P g n ad w H) (hS : hj_S n ad s H locs) {i : Nat} {fs : List Value} (hi : i < n) (hw : w i = .inr (ci, fs)) (hc : vwCl[ci]? = some (C, T, N)) (k : Nat) (hk : k < N) (hlink : Cond.fieldLink own index (T k).1 (T k).2.1 (T k).2.2.1 ∈ Ts) (hfin : (T k).2.2.2 = false) {v : Value} (hn : narrow (ty0 k) v = v) (hfit : fits (ty0 k) v = true) (hl : k < fs.length) (hdg : decode cc pc = .ok (.putfield index, 3))
    {w' : Nat → va_E} (hw' : va_up w i (.inr (ci, fs.set k v)) = w')
    (kk : ∀ (H1 : Heap) (locs1 : List Loc), hj_P g n ad w' H1 → hj_S n ad s H1 locs1 → W p l e R s m args below meth c H1 locs1 cells slots Q (F0 m (pc + 3) ls rest)) : W p l e R s m args below meth c H locs cells slots Q (F0 m pc ls (v :: .ref (ad i) :: rest)) :=
  va_put (D := g.1) hx hb hts hin ty0 hty hnm hown hK hP (hj_D hI) hS i (hj_at hi hw) hc k hk (hts _ hlink) (fun _ h => h) hfin (hty k hk) hn hfit hl hdg (fun H1 locs1 h1 _ h3 => kk H1 locs1 (by rw [hj_set hi, hw'] at h1; exact h1) h3)
theorem hj_ial (hx : p.tables.exec = Jvm.exec) (hb : c.code = cc) (hK : hj_K g s) (hP : hj_P g n ad w H) {i N : Nat} {f : Nat → Int32} (hi : i < n) (hw : w i = .inl (g.2.1, N, .inl f)) {x : Int32} (hin : vp_in x N) (hdg : decode cc pc = .ok (.iaload, 1))
    (kk : W p l e R s m args below meth c H locs cells slots Q (F0 m (pc + 1) ls (.int (f x.toNatClampNeg) :: rest))) : W p l e R s m args below meth c H locs cells slots Q (F0 m pc ls (.int x :: .ref (ad i) :: rest)) :=
  va_iald (D := g.1) hx hb hK hP i 0 (hj_at hi hw) rfl hin hdg kk
theorem hj_zal (hx : p.tables.exec = Jvm.exec) (hb : c.code = cc) (hK : hj_K g s) (hP : hj_P g n ad w H) {i N : Nat} {f : Nat → Int32} (hi : i < n) (hw : w i = .inl (g.2.2.1, N, .inl f)) {x : Int32} (hin : vp_in x N) (hdg : decode cc pc = .ok (.baload, 1))
    (kk : W p l e R s m args below meth c H locs cells slots Q (F0 m (pc + 1) ls (.int (f x.toNatClampNeg) :: rest))) : W p l e R s m args below meth c H locs cells slots Q (F0 m pc ls (.int x :: .ref (ad i) :: rest)) :=
  va_zald (D := g.1) hx hb hK hP i 1 (hj_at hi hw) rfl hin hdg kk
theorem hj_ral (hx : p.tables.exec = Jvm.exec) (hb : c.code = cc) (hK : hj_K g s) (hP : hj_P g n ad w H) {i N : Nat} {f : Nat → Option Nat} (hi : i < n) (hw : w i = .inl (g.2.2.2, N, .inr (.inr (.inr (.inr f))))) {x : Int32} (hin : vp_in x N) {b : Nat} (hf : f x.toNatClampNeg = some b) (hdg : decode cc pc = .ok (.aaload, 1))
    (kk : W p l e R s m args below meth c H locs cells slots Q (F0 m (pc + 1) ls (.ref b :: rest))) : W p l e R s m args below meth c H locs cells slots Q (F0 m pc ls (.int x :: .ref (ad i) :: rest)) :=
  va_aldq (D := g.1) (C := RX2) hx hb hK hP i 2 (hj_at hi hw) rfl hin hdg (by rw [hf]; exact kk)
theorem hj_ias (hx : p.tables.exec = Jvm.exec) (hb : c.code = cc) (hK : hj_K g s) (hI : hj_I n ad) (hP : hj_P g n ad w H) (hS : hj_S n ad s H locs) {i N : Nat} {f : Nat → Int32} (hi : i < n) (hw : w i = .inl (g.2.1, N, .inl f)) {x v : Int32} (hin : vp_in x N) (hdg : decode cc pc = .ok (.iastore, 1))
    {w' : Nat → va_E} (hw' : va_up w i (.inl (g.2.1, N, .inl (upd f x.toNatClampNeg v))) = w')
    (kk : ∀ (H1 : Heap) (locs1 : List Loc), hj_P g n ad w' H1 → hj_S n ad s H1 locs1 → W p l e R s m args below meth c H1 locs1 cells slots Q (F0 m (pc + 1) ls rest)) : W p l e R s m args below meth c H locs cells slots Q (F0 m pc ls (.int v :: .int x :: .ref (ad i) :: rest)) :=
  va_iast (D := g.1) hx hb hK hP (hj_D hI) hS i 0 (hj_at hi hw) rfl hin hdg (fun H1 locs1 h1 _ h3 => kk H1 locs1 (by rw [hj_set hi, hw'] at h1; exact h1) h3)
theorem hj_zas (hx : p.tables.exec = Jvm.exec) (hb : c.code = cc) (hK : hj_K g s) (hI : hj_I n ad) (hP : hj_P g n ad w H) (hS : hj_S n ad s H locs) {i N : Nat} {f : Nat → Int32} (hi : i < n) (hw : w i = .inl (g.2.2.1, N, .inl f)) {x v : Int32} (hin : vp_in x N) (hdg : decode cc pc = .ok (.bastore, 1))
    {w' : Nat → va_E} (hw' : va_up w i (.inl (g.2.2.1, N, .inl (upd f x.toNatClampNeg (vp_nar .boolean v)))) = w')
    (kk : ∀ (H1 : Heap) (locs1 : List Loc), hj_P g n ad w' H1 → hj_S n ad s H1 locs1 → W p l e R s m args below meth c H1 locs1 cells slots Q (F0 m (pc + 1) ls rest)) : W p l e R s m args below meth c H locs cells slots Q (F0 m pc ls (.int v :: .int x :: .ref (ad i) :: rest)) :=
  va_zast (D := g.1) hx hb hK hP (hj_D hI) hS i 1 (hj_at hi hw) rfl hin hdg (fun H1 locs1 h1 _ h3 => kk H1 locs1 (by rw [hj_set hi, hw'] at h1; exact h1) h3)
theorem hj_ras (hx : p.tables.exec = Jvm.exec) (hb : c.code = cc) (hK : hj_K g s) (hI : hj_I n ad) (hP : hj_P g n ad w H) (hS : hj_S n ad s H locs) {i j N : Nat} {f : Nat → Option Nat} {vs : List Value} (hi : i < n) (hw : w i = .inl (g.2.2.2, N, .inr (.inr (.inr (.inr f))))) (hj : j < n) (hwj : w j = .inr (2, vs)) {x : Int32} (hin : vp_in x N) (hdg : decode cc pc = .ok (.aastore, 1))
    {w' : Nat → va_E} (hw' : va_up w i (.inl (g.2.2.2, N, .inr (.inr (.inr (.inr (va_up f x.toNatClampNeg (some (ad j)))))))) = w')
    (kk : ∀ (H1 : Heap) (locs1 : List Loc), hj_P g n ad w' H1 → hj_S n ad s H1 locs1 → W p l e R s m args below meth c H1 locs1 cells slots Q (F0 m (pc + 1) ls rest)) : W p l e R s m args below meth c H locs cells slots Q (F0 m pc ls (.ref (ad j) :: .int x :: .ref (ad i) :: rest)) :=
  va_astq (D := g.1) (r := (RX2, TX2, 6)) hx hb hK hP (hj_D hI) hS i 2 j 2 (hj_at hi hw) rfl (hj_at hj hwj) rfl hin hdg (fun H1 locs1 h1 _ h3 => kk H1 locs1 (by rw [hj_set hi, hw'] at h1; exact h1) h3)
end HJA
section HJB
variable {p : Program} {l : Launch} {e : Env} {R : Room} {s : State} {m : MethodId} {args : Array Value} {below : List Frame} {meth : Method} {c : Code} {H : Heap} {locs : List Loc} {Q : State → Prop}
variable {cc : ByteArray} {pc : Nat} {ls : Array Slot} {rest : List Value} {g : hj_G} {n : Nat} {ad : Nat → Nat} {w w' : Nat → va_E} {X : hj_X}
/-- what a callee is given of the state, by the caller's world -/
theorem hj_cpre {av : List Value} (hP : hj_P g n ad w H) (hK : hj_K g s) (hX : ∀ U : State, U.heap = H → s.vm.Alike U.vm → X (hj_A n ad H.size) U) (U : State) (hU : U.heap = H) (hW : s.WarmedH U.vm) : va_Pc av (hj_pre g n ad w X H.size) av.toArray U :=
  ⟨rfl, by rw [hU], by rw [hU]; exact hP, va_K.moved hW.alike hK, hX U hU hW.alike⟩
def hj_Xb (X : hj_X) : Prop := ∀ (A : Nat → Prop) (U : State) (f : JFrame) (mk : MethodId) (a : Array Value), X A U → X A (U.calling f mk a)
theorem hj_Xb0 : hj_Xb hj_X0 := fun _ _ _ _ _ _ => trivial
theorem hj_blind {av : List Value} {sz : Nat} (hb : hj_Xb X) : FrameBlind (va_Pc av (hj_pre g n ad w X sz)) := fun a U f mk q => by
  obtain ⟨q0, q1, qP, qK, qX⟩ := q
  exact ⟨q0, q1, qP, va_K.moved (u := U) (U := U.calling f mk a) (Vm.Alike.refl U.vm) qK, hb _ _ _ _ _ qX⟩
variable {y : MethodName} {bytes : ByteArray} {maxL nL mcount index : Nat} {ret : Option FieldType} {ws : List Cond} {rm : Room} {Ts : List Cond} {own C : String} {As st0 : List Value} {i0 : Nat}
theorem hj_callVi {r : Int32} (S : CallFix p m c cc nL s args Ts own) (hM : hj_MI l y ws rm g n ad X (.ref (ad i0) :: As) w r w') (cw : CallW R s args own C index y bytes maxL ret ws rm 0 0 mcount)
    (hXb : hj_Xb X) (hX : ∀ U : State, U.heap = H → s.vm.Alike U.vm → X (hj_A n ad H.size) U) (hK : hj_K g s) (hP : hj_P g n ad w H) (hS : hj_S n ad s H locs) {ci : Nat} {fs : List Value} {T : u_T} {N : Nat} (hi : i0 < n) (hw : w i0 = .inr (ci, fs)) (hc : vwCl[ci]? = some (C, T, N))
    (hn : As.length = mcount) (hsz : ls.size = nL) (hst : st0 = As.reverse ++ .ref (ad i0) :: rest) (hR : (rest.map fun v => v.category).sum ≤ 8) (hdg : decode cc pc = .ok (.invokevirtual index, 3))
    (kk : ∀ (H1 : Heap) (locs1 : List Loc), hj_P g n ad w' H1 → hj_S n ad s H1 locs1 → W p l e R s m args below meth c H1 locs1 0 0 Q (F0 m (pc + 3) ls (.int r :: rest))) : W p l e R s m args below meth c H locs 0 0 Q (F0 m pc ls st0) := by
  subst hst
  refine va_calli (A0 := hj_A n ad s.heap.size) (H0 := s.heap) (va_runV (mc := 0) (ms := 0) (As := As) (rest := rest) S (hM H.size) cw ⟨hj_blind hXb, va_recv hK hP (q0 := i0) hc (hj_at hi hw), fun U hU hW => hj_cpre hP hK hX U hU hW⟩ rfl hn hsz rfl (lv_room hR) hdg ⟨Nat.zero_le _, Nat.zero_le _⟩) hS (fun q _ h => hj_A_sub hS.1 h) (fun q h => hj_A_sub hS.1 h) ?_
  intro r' u t H1 locs1 ht _ hr hB _ _ hS1
  obtain ⟨hP1, -⟩ := hB
  rw [ht] at hP1
  have hr : r' = r := hr
  subst hr
  exact kk H1 locs1 hP1 hS1
theorem hj_callVv (S : CallFix p m c cc nL s args Ts own) (hM : hj_MV l y ws rm g n ad X (.ref (ad i0) :: As) w w') (cw : CallW R s args own C index y bytes maxL ret ws rm 0 0 mcount)
    (hXb : hj_Xb X) (hX : ∀ U : State, U.heap = H → s.vm.Alike U.vm → X (hj_A n ad H.size) U) (hK : hj_K g s) (hP : hj_P g n ad w H) (hS : hj_S n ad s H locs) {ci : Nat} {fs : List Value} {T : u_T} {N : Nat} (hi : i0 < n) (hw : w i0 = .inr (ci, fs)) (hc : vwCl[ci]? = some (C, T, N))
    (hn : As.length = mcount) (hsz : ls.size = nL) (hst : st0 = As.reverse ++ .ref (ad i0) :: rest) (hR : (rest.map fun v => v.category).sum ≤ 8) (hdg : decode cc pc = .ok (.invokevirtual index, 3))
    (kk : ∀ (H1 : Heap) (locs1 : List Loc), hj_P g n ad w' H1 → hj_S n ad s H1 locs1 → W p l e R s m args below meth c H1 locs1 0 0 Q (F0 m (pc + 3) ls rest)) : W p l e R s m args below meth c H locs 0 0 Q (F0 m pc ls st0) := by
  subst hst
  refine va_callv (A0 := hj_A n ad s.heap.size) (H0 := s.heap) (va_runV (mc := 0) (ms := 0) (As := As) (rest := rest) S (hM H.size) cw ⟨hj_blind hXb, va_recv hK hP (q0 := i0) hc (hj_at hi hw), fun U hU hW => hj_cpre hP hK hX U hU hW⟩ rfl hn hsz rfl (lv_room hR) hdg ⟨Nat.zero_le _, Nat.zero_le _⟩) hS (fun q _ h => hj_A_sub hS.1 h) (fun q h => hj_A_sub hS.1 h) ?_
  intro u t H1 locs1 ht _ _ hB _ _ hS1
  obtain ⟨hP1, -⟩ := hB
  rw [ht] at hP1
  exact kk H1 locs1 hP1 hS1
theorem hj_callSi {r : Int32} (S : CallFix p m c cc nL s args Ts own) (hM : hj_MI l y ws rm g n ad X As w r w') (cw : CallB R s args own index y bytes maxL ret ws rm 0 0 mcount ∧ (Cond.static y).before args s = true)
    (hXb : hj_Xb X) (hX : ∀ U : State, U.heap = H → s.vm.Alike U.vm → X (hj_A n ad H.size) U) (hK : hj_K g s) (hP : hj_P g n ad w H) (hS : hj_S n ad s H locs)
    (hn : As.length = mcount) (hsz : ls.size = nL) (hst : st0 = As.reverse ++ rest) (hR : (rest.map fun v => v.category).sum ≤ 8) (hdg : decode cc pc = .ok (.invokestatic index, 3))
    (kk : ∀ (H1 : Heap) (locs1 : List Loc), hj_P g n ad w' H1 → hj_S n ad s H1 locs1 → W p l e R s m args below meth c H1 locs1 0 0 Q (F0 m (pc + 3) ls (.int r :: rest))) : W p l e R s m args below meth c H locs 0 0 Q (F0 m pc ls st0) := by
  subst hst
  refine va_calli (A0 := hj_A n ad s.heap.size) (H0 := s.heap) (va_runS (mc := 0) (ms := 0) (As := As) (rest := rest) S (hM H.size) cw ⟨hj_blind hXb, fun U hU hW => hj_cpre hP hK hX U hU hW⟩ rfl hn hsz rfl (lv_room hR) hdg ⟨Nat.zero_le _, Nat.zero_le _⟩) hS (fun q _ h => hj_A_sub hS.1 h) (fun q h => hj_A_sub hS.1 h) ?_
  intro r' u t H1 locs1 ht _ hr hB _ _ hS1
  obtain ⟨hP1, -⟩ := hB
  rw [ht] at hP1
  have hr : r' = r := hr
  subst hr
  exact kk H1 locs1 hP1 hS1
end HJB
/-! the mirrored programs: what a step asks, and how a chain of steps is opened -/
def hj_ck {α : Type} (x : Int32) (n : Nat) (k : Option α) : Option α := if x < 0 ∨ n ≤ x.toNatClampNeg then none else k
theorem hj_ck_s {α : Type} {x : Int32} {n : Nat} {k : Option α} {r : α} (h : hj_ck x n k = some r) : vp_in x n ∧ k = some r := by
  unfold hj_ck at h
  split at h
  · cases h
  · exact ⟨by assumption, h⟩
def hj_nz {α : Type} (x : Int32) (k : Option α) : Option α := if x = 0 then none else k
theorem hj_nz_s {α : Type} {x : Int32} {k : Option α} {r : α} (h : hj_nz x k = some r) : ¬ x = 0 ∧ k = some r := by
  unfold hj_nz at h
  split at h
  · cases h
  · exact ⟨by assumption, h⟩
def hj_bz {α : Type} (x : Int32) (k : Option α) : Option α := if x = 0 ∨ x = 1 then k else none
theorem hj_bz_s {α : Type} {x : Int32} {k : Option α} {r : α} (h : hj_bz x k = some r) : (x = 0 ∨ x = 1) ∧ k = some r := by
  unfold hj_bz at h
  split at h
  · exact ⟨by assumption, h⟩
  · cases h
def hj_nm {α β : Type} (x : α) (k : α → Option β) : Option β := k x
theorem hj_nm_s {α β : Type} {x : α} {k : α → Option β} {r : β} (h : hj_nm x k = some r) : ∃ y, y = x ∧ k y = some r := ⟨x, rfl, h⟩
theorem hj_nm_y {α β : Type} {x y : α} {k : α → Option β} {r : β} (h : hj_nm x k = some r) (e : y = x) : k y = some r := by subst e; exact h
def hj_o1 {α β : Type} (o : Option α) (k : α → Option β) : Option β := match o with | none => none | some x => k x
theorem hj_o1_s {α β : Type} {o : Option α} {k : α → Option β} {r : β} (h : hj_o1 o k = some r) : ∃ x, o = some x ∧ k x = some r := by
  cases o with
  | none => cases h
  | some x => exact ⟨x, rfl, h⟩
def hj_o2 {α β γ : Type} (o : Option (α × β)) (k : α → β → Option γ) : Option γ := match o with | none => none | some x => k x.1 x.2
theorem hj_o2_s {α β γ : Type} {o : Option (α × β)} {k : α → β → Option γ} {r : γ} (h : hj_o2 o k = some r) : ∃ x y, o = some (x, y) ∧ k x y = some r := by
  cases o with
  | none => cases h
  | some x => exact ⟨x.1, x.2, rfl, h⟩
def hj_o3 {α β γ δ : Type} (o : Option (α × β × γ)) (k : α → β → γ → Option δ) : Option δ := match o with | none => none | some x => k x.1 x.2.1 x.2.2
theorem hj_o3_s {α β γ δ : Type} {o : Option (α × β × γ)} {k : α → β → γ → Option δ} {r : δ} (h : hj_o3 o k = some r) : ∃ x y z, o = some (x, y, z) ∧ k x y z = some r := by
  cases o with
  | none => cases h
  | some x => exact ⟨x.1, x.2.1, x.2.2, rfl, h⟩
def hj_o4 {α β γ δ ε : Type} (o : Option (α × β × γ × δ)) (k : α → β → γ → δ → Option ε) : Option ε := match o with | none => none | some x => k x.1 x.2.1 x.2.2.1 x.2.2.2
theorem hj_o4_s {α β γ δ ε : Type} {o : Option (α × β × γ × δ)} {k : α → β → γ → δ → Option ε} {r : ε} (h : hj_o4 o k = some r) : ∃ x y z t, o = some (x, y, z, t) ∧ k x y z t = some r := by
  cases o with
  | none => cases h
  | some x => exact ⟨x.1, x.2.1, x.2.2.1, x.2.2.2, rfl, h⟩
/-- a loop: its body goes on (inr) or leaves (inl) -/
def hj_lp {S E : Type} (b : S → Option (E ⊕ S)) : Nat → S → Option E
  | 0, _ => none
  | n + 1, s => match b s with
    | none => none
    | some (.inl e) => some e
    | some (.inr s') => hj_lp b n s'
theorem hj_lp_s {S E : Type} {b : S → Option (E ⊕ S)} {n : Nat} {s : S} {e : E} (h : hj_lp b (n + 1) s = some e) : ∃ x, b s = some x ∧ (∀ e', x = .inl e' → e' = e) ∧ (∀ s', x = .inr s' → hj_lp b n s' = some e) := by
  unfold hj_lp at h
  cases hb : b s with
  | none => rw [hb] at h; cases h
  | some x =>
    rw [hb] at h
    refine ⟨x, rfl, fun e' he => ?_, fun s' hs => ?_⟩
    · subst he; exact Option.some.inj h
    · subst hs; exact h
/-- behind a loop that may also return -/
def hj_oe {R E T : Type} (f : R → T) (o : Option (R ⊕ E)) (k : E → Option T) : Option T := match o with
  | none => none
  | some (.inl r) => some (f r)
  | some (.inr e) => k e
theorem hj_oe_s {R E T : Type} {f : R → T} {o : Option (R ⊕ E)} {k : E → Option T} {t : T} (h : hj_oe f o k = some t) : ∃ x, o = some x ∧ (∀ r, x = .inl r → f r = t) ∧ (∀ e, x = .inr e → k e = some t) := by
  cases o with
  | none => cases h
  | some x =>
    refine ⟨x, rfl, fun r hr => ?_, fun e he => ?_⟩
    · subst hr; exact Option.some.inj h
    · subst he; exact h
abbrev hj_Ob : Type := (Nat → Int32) × (Nat → Nat → Int32)
/-- a number, a row's place, set -/
def hj_s (o : hj_Ob) (k : Nat) (v : Int32) : hj_Ob := (va_up o.1 k v, o.2)
def hj_a (o : hj_Ob) (k : Nat) (x : Int32) (v : Int32) : hj_Ob := (o.1, va_up o.2 k (upd (o.2 k) x.toNatClampNeg v))
theorem hj_uu {α : Type} (f : Nat → α) (k : Nat) (v v' : α) : va_up (va_up f k v) k v' = va_up f k v' := by
  funext j
  unfold va_up
  split <;> rfl
theorem hj_ue {α : Type} (f : Nat → α) (k : Nat) {v : α} (h : f k = v) : va_up f k v = f := by
  funext j
  unfold va_up
  split
  · subst_vars; rfl
  · rfl
end
section
/-! the two worlds: the class's 73 cells, the reference's 13 -/
abbrev hj_aI (g : hj_G) (L : Nat) (f : Nat → Int32) : va_E := .inl (g.2.1, L, .inl f)
abbrev hj_aZ (g : hj_G) (L : Nat) (f : Nat → Int32) : va_E := .inl (g.2.2.1, L, .inl f)
abbrev hj_aR (g : hj_G) (L : Nat) (f : Nat → Option Nat) : va_E := .inl (g.2.2.2, L, .inr (.inr (.inr (.inr f))))
abbrev wx_rm (ad : Nat → Nat) (r : Nat) (o : hj_Ob) : va_E := .inr (2, [.ref (ad 3), .ref (ad (r + 1)), .ref (ad (r + 2)), .int (o.1 3), .int (o.1 4), .int (o.1 5)])
abbrev wx_pn (ad : Nat → Nat) (r : Nat) (o : hj_Ob) : va_E := .inr (1, [.ref (ad (r + 1)), .ref (ad (r + 2)), .ref (ad (r + 3)), .int (o.1 3), .int (o.1 4), .int (o.1 5)])
abbrev wx_tx (ad : Nat → Nat) (o : hj_Ob) : va_E := .inr (4, [.ref (ad 2), .int (o.1 1)])
abbrev wx_ac (ad : Nat → Nat) (o : hj_Ob) : va_E := .inr (0, [.ref (ad 18), .int (o.1 1)])
abbrev wx_sg (ad : Nat → Nat) (o : hj_Ob) : va_E := .inr (3, [.ref (ad 64), .ref (ad 65), .ref (ad 66), .int (o.1 3)])
abbrev wx_hj (ad : Nat → Nat) (sd : Int64) : va_E := .inr (5, [.ref (ad 1), .ref (ad 3), .ref (ad 7), .ref (ad 11), .ref (ad 14), .ref (ad 17), .ref (ad 61), .ref (ad 62), .ref (ad 63), .long sd])
abbrev wx_bf (ad : Nat → Nat) (bf : Nat → Nat) : Nat → Option Nat := fun k => some (ad (bf k))
abbrev wx_sl (ad : Nat → Nat) : Nat → Option Nat := fun k => some (ad (67 + 3 * k))
/-- whose cell it is -/
def wx_own (i : Nat) : Nat := if i < 1 then 0 else if i < 3 then 1 else if i < 7 then 3 else if i < 11 then 7 else if i < 17 then 11 + 3 * ((i - 11) / 3) else if i < 19 then 17 else if i < 61 then 19 + 3 * ((i - 19) / 3) else if i < 63 then 0 else if i < 67 then 63 else 67 + 3 * ((i - 67) / 3)
def wx_cell (g : hj_G) (ad : Nat → Nat) (bf : Nat → Nat) (sd : Int64) (i : Nat) (o : hj_Ob) : va_E :=
  if i = 0 then wx_hj ad sd else if i = 1 then wx_tx ad o else if i = 2 then hj_aI g 56 (o.2 0)
  else if i = 3 then wx_pn ad 3 o else if i < 7 then hj_aI g 6 (o.2 (i - 4))
  else if i = 7 then wx_pn ad 7 o else if i < 11 then hj_aI g 6 (o.2 (i - 8))
  else if i < 17 then (if (i - 11) % 3 = 0 then wx_rm ad i o else hj_aI g 6 (o.2 ((i - 11) % 3)))
  else if i = 17 then wx_ac ad o else if i = 18 then hj_aR g 14 (wx_bf ad bf)
  else if i < 61 then (if (i - 19) % 3 = 0 then wx_rm ad i o else hj_aI g 6 (o.2 ((i - 19) % 3)))
  else if i = 61 then hj_aR g 2 (wx_sl ad) else if i = 62 then hj_aZ g 2 (o.2 7)
  else if i = 63 then wx_sg ad o else if i < 67 then hj_aI g 6 (o.2 (i - 64))
  else (if (i - 67) % 3 = 0 then wx_rm ad i o else hj_aI g 6 (o.2 ((i - 67) % 3)))
def hj_wx (g : hj_G) (ad : Nat → Nat) (σ : Nat → hj_Ob) (bf : Nat → Nat) (sd : Int64) : Nat → va_E := fun i => wx_cell g ad bf sd i (σ (wx_own i))
/-- the cells of rooms -/
def wx_R (r : Nat) : Prop := (11 ≤ r ∧ r < 17 ∧ r % 3 = 2) ∨ (19 ≤ r ∧ r < 61 ∧ r % 3 = 1) ∨ (67 ≤ r ∧ r < 73 ∧ r % 3 = 1)
def wx_B (r : Nat) : Prop := r = 3 ∨ r = 7
theorem wx_R_lt {r k : Nat} (h : wx_R r) (hk : k < 3) : r + k < 73 := by unfold wx_R at h; omega
theorem wx_R_3 {r : Nat} (h : wx_R r) : (3 : Nat) ≠ r := by unfold wx_R at h; omega
theorem wx_R_0 {r k : Nat} (h : wx_R r) (hk : k = 0 ∨ k = 1 ∨ k = 3 ∨ k = 7 ∨ k = 17 ∨ k = 63) : k ≠ r := by unfold wx_R at h; omega
theorem wx_R_11 : wx_R 11 := by unfold wx_R; omega
theorem wx_R_14 : wx_R 14 := by unfold wx_R; omega
theorem wx_R_sl {k : Nat} (h : k < 2) : wx_R (67 + 3 * k) := by unfold wx_R; omega
theorem wx_R_bf {b : Nat} (h : 19 ≤ b ∧ b < 61 ∧ b % 3 = 1) : wx_R b := by unfold wx_R; omega
theorem wx_own_r {r k : Nat} (hr : wx_R r) (hk : k < 3) : wx_own (r + k) = r := by
  unfold wx_R at hr
  unfold wx_own
  repeat' split
  all_goals omega
theorem wx_own_ri {r i : Nat} (hr : wx_R r) (h : wx_own i = r) : i = r ∨ i = r + 1 ∨ i = r + 2 := by
  unfold wx_R at hr
  unfold wx_own at h
  repeat' split at h
  all_goals omega
theorem wx_own_bi {r i : Nat} (hr : wx_B r) (h : wx_own i = r) : i = r ∨ i = r + 1 ∨ i = r + 2 ∨ i = r + 3 := by
  unfold wx_B at hr
  unfold wx_own at h
  repeat' split at h
  all_goals omega
theorem wx_own_ti {i : Nat} (h : wx_own i = 1) : i = 1 ∨ i = 2 := by
  unfold wx_own at h
  repeat' split at h
  all_goals omega
theorem wx_own_si {i : Nat} (h : wx_own i = 63) : i = 63 ∨ i = 64 ∨ i = 65 ∨ i = 66 := by
  unfold wx_own at h
  repeat' split at h
  all_goals omega
theorem wx_own_ai {i : Nat} (h : wx_own i = 17) : i = 17 ∨ i = 18 := by
  unfold wx_own at h
  repeat' split at h
  all_goals omega
theorem wx_own_hi {i : Nat} (h : wx_own i = 0) : i = 0 ∨ i = 61 ∨ i = 62 := by
  unfold wx_own at h
  repeat' split at h
  all_goals omega
section WX
variable {g : hj_G} {ad : Nat → Nat} {bf : Nat → Nat} {sd : Int64} {σ : Nat → hj_Ob}
theorem wx_cell_r {r : Nat} (hr : wx_R r) (o : hj_Ob) : wx_cell g ad bf sd r o = wx_rm ad r o := by
  unfold wx_R at hr
  unfold wx_cell
  rcases hr with h | h | h <;> (repeat (first | rw [if_neg (by omega)] | rw [if_pos (by omega)]))
theorem wx_cell_ra {r k : Nat} (hr : wx_R r) (hk : k = 1 ∨ k = 2) (o : hj_Ob) : wx_cell g ad bf sd (r + k) o = hj_aI g 6 (o.2 k) := by
  unfold wx_R at hr
  unfold wx_cell
  rcases hr with h | h | h
  · repeat (first | rw [if_neg (by omega)] | rw [if_pos (by omega)])
    rw [show (r + k - 11) % 3 = k by omega]
  · repeat (first | rw [if_neg (by omega)] | rw [if_pos (by omega)])
    rw [show (r + k - 19) % 3 = k by omega]
  · repeat (first | rw [if_neg (by omega)] | rw [if_pos (by omega)])
    rw [show (r + k - 67) % 3 = k by omega]
theorem wx_at_r {r : Nat} {ρ : hj_Ob} (hr : wx_R r) (hσ : σ r = ρ) : hj_wx g ad σ bf sd r = wx_rm ad r ρ := by
  subst hσ
  show wx_cell g ad bf sd r (σ (wx_own r)) = _
  rw [wx_own_r (k := 0) hr (by omega)]
  exact wx_cell_r hr _
theorem wx_at_ra {r : Nat} {ρ : hj_Ob} (k : Nat) (hr : wx_R r) (hk : k = 1 ∨ k = 2) (hσ : σ r = ρ) : hj_wx g ad σ bf sd (r + k) = hj_aI g 6 (ρ.2 k) := by
  subst hσ
  show wx_cell g ad bf sd (r + k) (σ (wx_own (r + k))) = _
  rw [wx_own_r (k := k) hr (by omega)]
  exact wx_cell_ra hr hk _
theorem wx_at_b {r : Nat} {π : hj_Ob} (hr : wx_B r) (hσ : σ r = π) : hj_wx g ad σ bf sd r = wx_pn ad r π := by
  subst hσ
  rcases hr with rfl | rfl <;> rfl
theorem wx_at_ba {r : Nat} {π : hj_Ob} (k : Nat) (hr : wx_B r) (hk : k < 3) (hσ : σ r = π) : hj_wx g ad σ bf sd (r + (k + 1)) = hj_aI g 6 (π.2 k) := by
  subst hσ
  rcases (show k = 0 ∨ k = 1 ∨ k = 2 by omega) with rfl | rfl | rfl <;> rcases hr with rfl | rfl <;> rfl
theorem wx_at_t {t : hj_Ob} (hσ : σ 1 = t) : hj_wx g ad σ bf sd 1 = wx_tx ad t := by subst hσ; rfl
theorem wx_at_ta {t : hj_Ob} (hσ : σ 1 = t) : hj_wx g ad σ bf sd 2 = hj_aI g 56 (t.2 0) := by subst hσ; rfl
theorem wx_at_a {t : hj_Ob} (hσ : σ 17 = t) : hj_wx g ad σ bf sd 17 = wx_ac ad t := by subst hσ; rfl
theorem wx_at_bf : hj_wx g ad σ bf sd 18 = hj_aR g 14 (wx_bf ad bf) := rfl
theorem wx_at_sl : hj_wx g ad σ bf sd 61 = hj_aR g 2 (wx_sl ad) := rfl
theorem wx_at_k {t : hj_Ob} (hσ : σ 0 = t) : hj_wx g ad σ bf sd 62 = hj_aZ g 2 (t.2 7) := by subst hσ; rfl
theorem wx_at_h : hj_wx g ad σ bf sd 0 = wx_hj ad sd := rfl
theorem wx_at_s {t : hj_Ob} (hσ : σ 63 = t) : hj_wx g ad σ bf sd 63 = wx_sg ad t := by subst hσ; rfl
theorem wx_at_sa {t : hj_Ob} (k : Nat) (hk : k < 3) (hσ : σ 63 = t) : hj_wx g ad σ bf sd (64 + k) = hj_aI g 6 (t.2 k) := by
  subst hσ
  rcases (show k = 0 ∨ k = 1 ∨ k = 2 by omega) with rfl | rfl | rfl <;> rfl
theorem wx_up {r j : Nat} {ρ' : hj_Ob} {e : va_E} (hj : wx_own j = r) (he : wx_cell g ad bf sd j ρ' = e) (hn : ∀ i, wx_own i = r → i ≠ j → wx_cell g ad bf sd i ρ' = wx_cell g ad bf sd i (σ r)) : va_up (hj_wx g ad σ bf sd) j e = hj_wx g ad (va_up σ r ρ') bf sd := by
  funext i
  by_cases hi : i = j
  · subst hi
    rw [va_up_self]
    show e = wx_cell g ad bf sd i (va_up σ r ρ' (wx_own i))
    rw [hj, va_up_self, he]
  · rw [va_up_ne _ _ hi]
    show wx_cell g ad bf sd i (σ (wx_own i)) = wx_cell g ad bf sd i (va_up σ r ρ' (wx_own i))
    by_cases ho : wx_own i = r
    · rw [ho, va_up_self]
      exact (hn i ho hi).symm
    · rw [va_up_ne _ _ ho]
theorem wx_a_ne {ρ : hj_Ob} {k j : Nat} {x v : Int32} (h : j ≠ k) : (hj_a ρ k x v).2 j = ρ.2 j := va_up_ne _ _ h
theorem wx_a_se {ρ : hj_Ob} {k : Nat} {x v : Int32} : (hj_a ρ k x v).2 k = upd (ρ.2 k) x.toNatClampNeg v := va_up_self _ _ _
theorem wx_s_r {r k : Nat} {ρ : hj_Ob} {v : Int32} {e : va_E} (hr : wx_R r) (hσ : σ r = ρ) (he : wx_rm ad r (hj_s ρ k v) = e) : va_up (hj_wx g ad σ bf sd) r e = hj_wx g ad (va_up σ r (hj_s ρ k v)) bf sd := by
  subst hσ
  refine wx_up (wx_own_r (k := 0) hr (by omega)) ((wx_cell_r hr _).trans he) (fun i hi hne => ?_)
  rcases wx_own_ri hr hi with rfl | rfl | rfl
  · exact absurd rfl hne
  · rw [wx_cell_ra hr (Or.inl rfl), wx_cell_ra hr (Or.inl rfl)]; rfl
  · rw [wx_cell_ra hr (Or.inr rfl), wx_cell_ra hr (Or.inr rfl)]; rfl
theorem wx_a_r {r : Nat} {ρ : hj_Ob} {x v : Int32} (k : Nat) (hr : wx_R r) (hk : k = 1 ∨ k = 2) (hσ : σ r = ρ) : va_up (hj_wx g ad σ bf sd) (r + k) (hj_aI g 6 (upd (ρ.2 k) x.toNatClampNeg v)) = hj_wx g ad (va_up σ r (hj_a ρ k x v)) bf sd := by
  subst hσ
  refine wx_up (wx_own_r hr (by omega)) ?_ (fun i hi hne => ?_)
  · rw [wx_cell_ra hr hk, wx_a_se]
  · rcases wx_own_ri hr hi with rfl | rfl | rfl
    · rw [wx_cell_r hr, wx_cell_r hr]; rfl
    · rw [wx_cell_ra hr (Or.inl rfl), wx_cell_ra hr (Or.inl rfl), wx_a_ne (by omega)]
    · rw [wx_cell_ra hr (Or.inr rfl), wx_cell_ra hr (Or.inr rfl), wx_a_ne (by omega)]
theorem wx_s_b {r k : Nat} {ρ : hj_Ob} {v : Int32} {e : va_E} (hr : wx_B r) (hσ : σ r = ρ) (he : wx_pn ad r (hj_s ρ k v) = e) : va_up (hj_wx g ad σ bf sd) r e = hj_wx g ad (va_up σ r (hj_s ρ k v)) bf sd := by
  subst hσ
  refine wx_up (by rcases hr with rfl | rfl <;> rfl) (by rw [← he]; rcases hr with rfl | rfl <;> rfl) (fun i hi hne => ?_)
  rcases wx_own_bi hr hi with rfl | rfl | rfl | rfl
  · exact absurd rfl hne
  all_goals (rcases hr with rfl | rfl <;> rfl)
theorem wx_a_b {r : Nat} {ρ : hj_Ob} {x v : Int32} (k : Nat) (hr : wx_B r) (hk : k < 3) (hσ : σ r = ρ) : va_up (hj_wx g ad σ bf sd) (r + (k + 1)) (hj_aI g 6 (upd (ρ.2 k) x.toNatClampNeg v)) = hj_wx g ad (va_up σ r (hj_a ρ k x v)) bf sd := by
  subst hσ
  have hown : wx_own (r + (k + 1)) = r := by
    rcases (show k = 0 ∨ k = 1 ∨ k = 2 by omega) with rfl | rfl | rfl <;> rcases hr with rfl | rfl <;> rfl
  have hc : ∀ (j : Nat) (o : hj_Ob), j < 3 → wx_cell g ad bf sd (r + (j + 1)) o = hj_aI g 6 (o.2 j) := fun j o hj => by
    rcases (show j = 0 ∨ j = 1 ∨ j = 2 by omega) with rfl | rfl | rfl <;> rcases hr with rfl | rfl <;> rfl
  refine wx_up hown ?_ (fun i hi hne => ?_)
  · rw [hc k _ hk, wx_a_se]
  · have key : ∀ j, j < 3 → j ≠ k → wx_cell g ad bf sd (r + (j + 1)) (hj_a (σ r) k x v) = wx_cell g ad bf sd (r + (j + 1)) (σ r) := fun j hj hjk => by rw [hc j _ hj, hc j _ hj, wx_a_ne hjk]
    rcases wx_own_bi hr hi with rfl | rfl | rfl | rfl
    · rcases hr with h | h <;> rw [h] <;> rfl
    · exact key 0 (by omega) (by omega)
    · exact key 1 (by omega) (by omega)
    · exact key 2 (by omega) (by omega)
theorem wx_s_t {ρ : hj_Ob} {v : Int32} (hσ : σ 1 = ρ) : va_up (hj_wx g ad σ bf sd) 1 (.inr (4, [.ref (ad 2), .int v])) = hj_wx g ad (va_up σ 1 (hj_s ρ 1 v)) bf sd := by
  subst hσ
  refine wx_up rfl rfl (fun i hi hne => ?_)
  rcases wx_own_ti hi with rfl | rfl
  · exact absurd rfl hne
  · rfl
theorem wx_a_t {ρ : hj_Ob} {x v : Int32} (hσ : σ 1 = ρ) : va_up (hj_wx g ad σ bf sd) 2 (hj_aI g 56 (upd (ρ.2 0) x.toNatClampNeg v)) = hj_wx g ad (va_up σ 1 (hj_a ρ 0 x v)) bf sd := by
  subst hσ
  refine wx_up rfl (by show hj_aI g 56 ((hj_a (σ 1) 0 x v).2 0) = _; rw [wx_a_se]) (fun i hi hne => ?_)
  rcases wx_own_ti hi with rfl | rfl
  · rfl
  · exact absurd rfl hne
theorem wx_s_a {ρ : hj_Ob} {v : Int32} (hσ : σ 17 = ρ) : va_up (hj_wx g ad σ bf sd) 17 (.inr (0, [.ref (ad 18), .int v])) = hj_wx g ad (va_up σ 17 (hj_s ρ 1 v)) bf sd := by
  subst hσ
  refine wx_up rfl rfl (fun i hi hne => ?_)
  rcases wx_own_ai hi with rfl | rfl
  · exact absurd rfl hne
  · rfl
theorem wx_a_bf {x : Int32} {b : Nat} : va_up (hj_wx g ad σ bf sd) 18 (hj_aR g 14 (va_up (wx_bf ad bf) x.toNatClampNeg (some (ad b)))) = hj_wx g ad σ (va_up bf x.toNatClampNeg b) sd := by
  funext i
  by_cases hi : i = 18
  · subst hi
    rw [va_up_self]
    have h : va_up (wx_bf ad bf) x.toNatClampNeg (some (ad b)) = wx_bf ad (va_up bf x.toNatClampNeg b) := by
      funext k
      by_cases hk : k = x.toNatClampNeg
      · subst hk
        simp [wx_bf, va_up_self]
      · simp [wx_bf, va_up_ne _ _ hk]
    rw [h]
    rfl
  · rw [va_up_ne _ _ hi]
    show wx_cell g ad bf sd i _ = wx_cell g ad _ sd i _
    unfold wx_cell
    simp [hi]
theorem wx_s_s {ρ : hj_Ob} {v : Int32} (hσ : σ 63 = ρ) : va_up (hj_wx g ad σ bf sd) 63 (.inr (3, [.ref (ad 64), .ref (ad 65), .ref (ad 66), .int v])) = hj_wx g ad (va_up σ 63 (hj_s ρ 3 v)) bf sd := by
  subst hσ
  refine wx_up rfl rfl (fun i hi hne => ?_)
  rcases wx_own_si hi with rfl | rfl | rfl | rfl
  · exact absurd rfl hne
  all_goals rfl
theorem wx_a_s {ρ : hj_Ob} {x v : Int32} (k : Nat) (hk : k < 3) (hσ : σ 63 = ρ) : va_up (hj_wx g ad σ bf sd) (64 + k) (hj_aI g 6 (upd (ρ.2 k) x.toNatClampNeg v)) = hj_wx g ad (va_up σ 63 (hj_a ρ k x v)) bf sd := by
  subst hσ
  have hown : wx_own (64 + k) = 63 := by rcases (show k = 0 ∨ k = 1 ∨ k = 2 by omega) with rfl | rfl | rfl <;> rfl
  have hc : ∀ (j : Nat) (o : hj_Ob), j < 3 → wx_cell g ad bf sd (64 + j) o = hj_aI g 6 (o.2 j) := fun j o hj => by
    rcases (show j = 0 ∨ j = 1 ∨ j = 2 by omega) with rfl | rfl | rfl <;> rfl
  refine wx_up hown ?_ (fun i hi hne => ?_)
  · rw [hc k _ hk, wx_a_se]
  · have key : ∀ j, j < 3 → j ≠ k → wx_cell g ad bf sd (64 + j) (hj_a (σ 63) k x v) = wx_cell g ad bf sd (64 + j) (σ 63) := fun j hj hjk => by rw [hc j _ hj, hc j _ hj, wx_a_ne hjk]
    rcases wx_own_si hi with rfl | rfl | rfl | rfl
    · rfl
    · exact key 0 (by omega) (by omega)
    · exact key 1 (by omega) (by omega)
    · exact key 2 (by omega) (by omega)
theorem wx_a_k {ρ : hj_Ob} {x v : Int32} (hσ : σ 0 = ρ) : va_up (hj_wx g ad σ bf sd) 62 (hj_aZ g 2 (upd (ρ.2 7) x.toNatClampNeg v)) = hj_wx g ad (va_up σ 0 (hj_a ρ 7 x v)) bf sd := by
  subst hσ
  refine wx_up rfl (by show hj_aZ g 2 ((hj_a (σ 0) 7 x v).2 7) = _; rw [wx_a_se]) (fun i hi hne => ?_)
  rcases wx_own_hi hi with rfl | rfl | rfl
  · rfl
  · rfl
  · exact absurd rfl hne
theorem wx_s_d {v : Int64} : va_up (hj_wx g ad σ bf sd) 0 (wx_hj ad v) = hj_wx g ad σ bf v := by
  funext i
  by_cases hi : i = 0
  · subst hi
    rw [va_up_self]
    rfl
  · rw [va_up_ne _ _ hi]
    show wx_cell g ad bf sd i _ = wx_cell g ad bf v i _
    unfold wx_cell
    simp [hi]
end WX
/-! the reference's world: one object, twelve rows -/
abbrev wm_ob (ad : Nat → Nat) (o : hj_Ob) (sd : Int64) : va_E := .inr (6, [.int (o.1 0), .int (o.1 1), .ref (ad 1), .ref (ad 2), .ref (ad 3), .ref (ad 4), .ref (ad 5), .int (o.1 7), .int (o.1 8), .ref (ad 6), .int (o.1 10), .int (o.1 11), .int (o.1 12), .int (o.1 13), .int (o.1 14), .ref (ad 7), .int (o.1 16), .int (o.1 17), .ref (ad 8), .ref (ad 9), .ref (ad 10), .long sd, .ref (ad 11), .ref (ad 12)])
def wm_sl (i : Nat) : Nat := match i with | 1 => 2 | 2 => 3 | 3 => 4 | 4 => 5 | 5 => 6 | 6 => 9 | 7 => 15 | 8 => 18 | 9 => 19 | 10 => 20 | 11 => 22 | 12 => 23 | k => 100 + k
def wm_ln (i : Nat) : Nat := match i with | 3 => 30 | 4 => 18 | 6 => 56 | 7 => 210 | 11 => 2 | 12 => 30 | _ => 6
def hj_wm (g : hj_G) (ad : Nat → Nat) (τ : hj_Ob) (sd : Int64) : Nat → va_E := fun i => if i = 0 then wm_ob ad τ sd else if i = 11 then hj_aZ g 2 (τ.2 22) else hj_aI g (wm_ln i) (τ.2 (wm_sl i))
theorem wm_inj {i j : Nat} (hj : 1 ≤ j) (hj2 : j ≤ 12) (h : wm_sl i = wm_sl j) : i = j ∨ i = 0 := by
  have h2 : wm_sl j < 24 := by
    rcases (show j = 1 ∨ j = 2 ∨ j = 3 ∨ j = 4 ∨ j = 5 ∨ j = 6 ∨ j = 7 ∨ j = 8 ∨ j = 9 ∨ j = 10 ∨ j = 11 ∨ j = 12 by omega) with rfl | rfl | rfl | rfl | rfl | rfl | rfl | rfl | rfl | rfl | rfl | rfl <;> decide
  have h3 : i ≤ 12 := by
    apply Nat.le_of_not_lt
    intro hi
    have : wm_sl i = 100 + i := by
      unfold wm_sl
      split <;> first | omega | rfl
    omega
  have key : ∀ i, i < 13 → ∀ j, j < 13 → 1 ≤ j → wm_sl i = wm_sl j → i = j ∨ i = 0 := by decide
  exact key i (by omega) j (by omega) hj h
section WM
variable {g : hj_G} {ad : Nat → Nat} {sd : Int64} {τ : hj_Ob}
theorem wm_s {k : Nat} {v : Int32} {e : va_E} (he : wm_ob ad (hj_s τ k v) sd = e) : va_up (hj_wm g ad τ sd) 0 e = hj_wm g ad (hj_s τ k v) sd := by
  funext i
  by_cases hi : i = 0
  · subst hi
    rw [va_up_self]
    exact he.symm
  · rw [va_up_ne _ _ hi]
    simp [hj_wm, hi, hj_s]
theorem wm_a {x v : Int32} (j : Nat) (hj : 1 ≤ j) (hj2 : j ≤ 12) (hz : j ≠ 11) : va_up (hj_wm g ad τ sd) j (hj_aI g (wm_ln j) (upd (τ.2 (wm_sl j)) x.toNatClampNeg v)) = hj_wm g ad (hj_a τ (wm_sl j) x v) sd := by
  funext i
  by_cases hi : i = j
  · subst hi
    rw [va_up_self]
    simp [hj_wm, hz, show ¬ i = 0 by omega, wx_a_se]
  · rw [va_up_ne _ _ hi]
    by_cases h0 : i = 0
    · subst h0
      simp [hj_wm, hj_a]
    · by_cases h11 : i = 11
      · subst h11
        have : (22 : Nat) ≠ wm_sl j := fun h => by
          rcases wm_inj (i := 11) hj hj2 h with h' | h' <;> omega
        simp [hj_wm, wx_a_ne this]
      · have : wm_sl i ≠ wm_sl j := fun h => by
          rcases wm_inj hj hj2 h with h' | h' <;> omega
        simp [hj_wm, h0, h11, wx_a_ne this]
theorem wm_z {x v : Int32} : va_up (hj_wm g ad τ sd) 11 (hj_aZ g 2 (upd (τ.2 22) x.toNatClampNeg v)) = hj_wm g ad (hj_a τ 22 x v) sd := by
  funext i
  by_cases hi : i = 11
  · subst hi
    rw [va_up_self]
    simp [hj_wm, wx_a_se]
  · rw [va_up_ne _ _ hi]
    by_cases h0 : i = 0
    · subst h0
      simp [hj_wm, hj_a]
    · have : wm_sl i ≠ 22 := fun h => by
        rcases wm_inj (i := i) (j := 11) (by omega) (by omega) h with h' | h' <;> omega
      simp [hj_wm, h0, hi, wx_a_ne this]
theorem wm_d {v : Int64} : va_up (hj_wm g ad τ sd) 0 (wm_ob ad τ v) = hj_wm g ad τ v := by
  funext i
  by_cases hi : i = 0
  · subst hi
    rw [va_up_self]
    simp [hj_wm]
  · rw [va_up_ne _ _ hi]
    simp [hj_wm, hi]
end WM
/-! the class's two static rows, that nobody writes -/
def hs_H (j : Nat) : Int32 := match j with | 0 => 1 | 1 => 100 | 2 => 10000 | 3 => 1000000 | _ => 100000000
def hs_F (j : Nat) : Int32 := match j with | 0 => 1 | 1 => 1 | 2 => 2 | 3 => 6 | 4 => 24 | 5 => 120 | _ => 720
def hs_Z : hj_X := fun A U => ∃ t1 t2 : Nat, va_Z "HungryJury" "HUNDREDS" "[I" (.ref t1) A U U.heap ∧ va_T .int t1 5 (fun j => .int (hs_H j)) A U U.heap ∧ va_Z "HungryJury" "FACTORIALS" "[I" (.ref t2) A U U.heap ∧ va_T .int t2 7 (fun j => .int (hs_F j)) A U U.heap
theorem hs_Xb : hj_Xb hs_Z := fun A U f mk a h => by
  obtain ⟨t1, t2, h1, h2, h3, h4⟩ := h
  exact ⟨t1, t2, va_Z.moved (u := U) (U := U.calling f mk a) (Vm.Alike.refl U.vm) h1, va_T.moved (u := U) (U := U.calling f mk a) (Vm.Alike.refl U.vm) h2, va_Z.moved (u := U) (U := U.calling f mk a) (Vm.Alike.refl U.vm) h3, va_T.moved (u := U) (U := U.calling f mk a) (Vm.Alike.refl U.vm) h4⟩
theorem hs_at {n : Nat} {ad : Nat → Nat} {s : State} {H : Heap} {locs : List Loc} (h : hs_Z (hj_A n ad s.heap.size) s) (hS : hj_S n ad s H locs) (U : State) (hU : U.heap = H) (hA : s.vm.Alike U.vm) : hs_Z (hj_A n ad H.size) U := by
  obtain ⟨t1, t2, h1, h2, h3, h4⟩ := h
  subst hU
  exact ⟨t1, t2, va_Z.narrow (va_Z.kept (va_Z.moved hA h1) hS.2.1) (fun q => hj_A_sub hS.1), va_T.narrow (va_T.kept (va_T.moved hA h2) hS.2.1) (fun q => hj_A_sub hS.1), va_Z.narrow (va_Z.kept (va_Z.moved hA h3) hS.2.1) (fun q => hj_A_sub hS.1), va_T.narrow (va_T.kept (va_T.moved hA h4) hS.2.1) (fun q => hj_A_sub hS.1)⟩
theorem wx_B_lt {r k : Nat} (h : wx_B r) (hk : k < 4) : r + k < 73 := by unfold wx_B at h; omega
theorem wx_B_1 {r : Nat} (h : wx_B r) : (1 : Nat) ≠ r := by unfold wx_B at h; omega
theorem hj_in_lt {x : Int32} {n : Nat} (h : vp_in x n) : x.toNatClampNeg < n := Nat.not_le.mp fun q => h (Or.inr q)
def hj_rg {α : Type} (b : Nat) (k : Nat → Option α) : Option α := if 19 ≤ b ∧ b < 61 ∧ b % 3 = 1 then k b else none
theorem hj_rg_s {α : Type} {b : Nat} {k : Nat → Option α} {r : α} (h : hj_rg b k = some r) : ∃ y, y = b ∧ (19 ≤ y ∧ y < 61 ∧ y % 3 = 1) ∧ k y = some r := by
  unfold hj_rg at h
  split at h
  · exact ⟨b, rfl, by assumption, h⟩
  · cases h
def hj_o5 {α β γ δ ε ζ : Type} (o : Option (α × β × γ × δ × ε)) (k : α → β → γ → δ → ε → Option ζ) : Option ζ := match o with | none => none | some x => k x.1 x.2.1 x.2.2.1 x.2.2.2.1 x.2.2.2.2
theorem hj_o5_s {α β γ δ ε ζ : Type} {o : Option (α × β × γ × δ × ε)} {k : α → β → γ → δ → ε → Option ζ} {r : ζ} (h : hj_o5 o k = some r) : ∃ x y z t u, o = some (x, y, z, t, u) ∧ k x y z t u = some r := by
  cases o with
  | none => cases h
  | some x => exact ⟨x.1, x.2.1, x.2.2.1, x.2.2.2.1, x.2.2.2.2, rfl, h⟩
end
