section
/-! PART A of kit/laws/SKELETON.whole (pasted, a starting text) -/
/-- a private method of a class that the tables say can be made, by its rows of tables_1 -/
def lw_okq (q : MethodName × Nat) : Prop := (q.1.cls ≠ "java/lang/invoke/MethodHandle" ∧ q.1.cls ≠ "java/lang/invoke/VarHandle") ∧ Cond.instantiable q.1.cls q.2 ∈ tables_1 ∧ Cond.privateMethod q.1 ∈ tables_1 ∧ Cond.instanceMethod q.1 ∈ tables_1
theorem lw_p0 : lw_okq (⟨"BraidHorns", "keepState", "()V"⟩, 6) := ⟨⟨by decide +kernel, by decide +kernel⟩, List.mem_of_getElem? (i := 11) (by decide +kernel), List.mem_of_getElem? (i := 128) (by decide +kernel), List.mem_of_getElem? (i := 129) (by decide +kernel)⟩
theorem lw_p1 : lw_okq (⟨"BraidHorns", "recorded", "(I)I"⟩, 6) := ⟨⟨by decide +kernel, by decide +kernel⟩, List.mem_of_getElem? (i := 11) (by decide +kernel), List.mem_of_getElem? (i := 155) (by decide +kernel), List.mem_of_getElem? (i := 156) (by decide +kernel)⟩
theorem lw_p2 : lw_okq (⟨"BraidHorns$Track", "brokenEnds", "()I"⟩, 9) := ⟨⟨by decide +kernel, by decide +kernel⟩, List.mem_of_getElem? (i := 19) (by decide +kernel), List.mem_of_getElem? (i := 213) (by decide +kernel), List.mem_of_getElem? (i := 214) (by decide +kernel)⟩
theorem lw_p3 : lw_okq (⟨"BraidHorns$Track", "doStep", "()V"⟩, 9) := ⟨⟨by decide +kernel, by decide +kernel⟩, List.mem_of_getElem? (i := 19) (by decide +kernel), List.mem_of_getElem? (i := 240) (by decide +kernel), List.mem_of_getElem? (i := 241) (by decide +kernel)⟩
theorem lw_p4 : lw_okq (⟨"BraidHorns$Track", "allElls", "()I"⟩, 9) := ⟨⟨by decide +kernel, by decide +kernel⟩, List.mem_of_getElem? (i := 19) (by decide +kernel), List.mem_of_getElem? (i := 314) (by decide +kernel), List.mem_of_getElem? (i := 315) (by decide +kernel)⟩
theorem lw_p5 : lw_okq (⟨"BraidHorns$Track", "turnedPlace", "(II)I"⟩, 9) := ⟨⟨by decide +kernel, by decide +kernel⟩, List.mem_of_getElem? (i := 19) (by decide +kernel), List.mem_of_getElem? (i := 353) (by decide +kernel), List.mem_of_getElem? (i := 354) (by decide +kernel)⟩
theorem lw_p6 : lw_okq (⟨"BraidHorns", "carryOutOrder", "(I)I"⟩, 6) := ⟨⟨by decide +kernel, by decide +kernel⟩, List.mem_of_getElem? (i := 11) (by decide +kernel), List.mem_of_getElem? (i := 427) (by decide +kernel), List.mem_of_getElem? (i := 428) (by decide +kernel)⟩
theorem lw_p7 : lw_okq (⟨"BraidHorns$Pad", "behindDigits", "(I)I"⟩, 2) := ⟨⟨by decide +kernel, by decide +kernel⟩, List.mem_of_getElem? (i := 89) (by decide +kernel), List.mem_of_getElem? (i := 435) (by decide +kernel), List.mem_of_getElem? (i := 436) (by decide +kernel)⟩
theorem lw_p8 : lw_okq (⟨"BraidHornsModel", "lay", "(III)V"⟩, 12) := ⟨⟨by decide +kernel, by decide +kernel⟩, List.mem_of_getElem? (i := 475) (by decide +kernel), List.mem_of_getElem? (i := 481) (by decide +kernel), List.mem_of_getElem? (i := 482) (by decide +kernel)⟩
theorem lw_p9 : lw_okq (⟨"BraidHornsModel", "many", "()I"⟩, 12) := ⟨⟨by decide +kernel, by decide +kernel⟩, List.mem_of_getElem? (i := 475) (by decide +kernel), List.mem_of_getElem? (i := 536) (by decide +kernel), List.mem_of_getElem? (i := 537) (by decide +kernel)⟩
theorem lw_p10 : lw_okq (⟨"BraidHornsModel", "isCarrier", "(I)Z"⟩, 12) := ⟨⟨by decide +kernel, by decide +kernel⟩, List.mem_of_getElem? (i := 475) (by decide +kernel), List.mem_of_getElem? (i := 540) (by decide +kernel), List.mem_of_getElem? (i := 541) (by decide +kernel)⟩
theorem lw_p11 : lw_okq (⟨"BraidHornsModel", "of1", "(II)I"⟩, 12) := ⟨⟨by decide +kernel, by decide +kernel⟩, List.mem_of_getElem? (i := 475) (by decide +kernel), List.mem_of_getElem? (i := 544) (by decide +kernel), List.mem_of_getElem? (i := 545) (by decide +kernel)⟩
theorem lw_p12 : lw_okq (⟨"BraidHornsModel", "record", "()V"⟩, 12) := ⟨⟨by decide +kernel, by decide +kernel⟩, List.mem_of_getElem? (i := 475) (by decide +kernel), List.mem_of_getElem? (i := 552) (by decide +kernel), List.mem_of_getElem? (i := 553) (by decide +kernel)⟩
theorem lw_p13 : lw_okq (⟨"BraidHornsModel", "whyNotCarrier", "(II)I"⟩, 12) := ⟨⟨by decide +kernel, by decide +kernel⟩, List.mem_of_getElem? (i := 475) (by decide +kernel), List.mem_of_getElem? (i := 567) (by decide +kernel), List.mem_of_getElem? (i := 568) (by decide +kernel)⟩
theorem lw_p14 : lw_okq (⟨"BraidHornsModel", "isPlace", "(II)Z"⟩, 12) := ⟨⟨by decide +kernel, by decide +kernel⟩, List.mem_of_getElem? (i := 475) (by decide +kernel), List.mem_of_getElem? (i := 571) (by decide +kernel), List.mem_of_getElem? (i := 572) (by decide +kernel)⟩
theorem lw_p15 : lw_okq (⟨"BraidHornsModel", "horns", "()I"⟩, 12) := ⟨⟨by decide +kernel, by decide +kernel⟩, List.mem_of_getElem? (i := 475) (by decide +kernel), List.mem_of_getElem? (i := 575) (by decide +kernel), List.mem_of_getElem? (i := 576) (by decide +kernel)⟩
def lw_privs_1 : List (MethodName × Nat) := [(⟨"BraidHorns", "keepState", "()V"⟩, 6), (⟨"BraidHorns", "recorded", "(I)I"⟩, 6), (⟨"BraidHorns$Track", "brokenEnds", "()I"⟩, 9), (⟨"BraidHorns$Track", "doStep", "()V"⟩, 9), (⟨"BraidHorns$Track", "allElls", "()I"⟩, 9), (⟨"BraidHorns$Track", "turnedPlace", "(II)I"⟩, 9), (⟨"BraidHorns", "carryOutOrder", "(I)I"⟩, 6), (⟨"BraidHorns$Pad", "behindDigits", "(I)I"⟩, 2), (⟨"BraidHornsModel", "lay", "(III)V"⟩, 12), (⟨"BraidHornsModel", "many", "()I"⟩, 12), (⟨"BraidHornsModel", "isCarrier", "(I)Z"⟩, 12), (⟨"BraidHornsModel", "of1", "(II)I"⟩, 12), (⟨"BraidHornsModel", "record", "()V"⟩, 12), (⟨"BraidHornsModel", "whyNotCarrier", "(II)I"⟩, 12), (⟨"BraidHornsModel", "isPlace", "(II)Z"⟩, 12), (⟨"BraidHornsModel", "horns", "()I"⟩, 12)]
theorem lw_r1 : ∀ q ∈ lw_privs_1, lw_okq q := List.forall_mem_cons.mpr ⟨lw_p0, List.forall_mem_cons.mpr ⟨lw_p1, List.forall_mem_cons.mpr ⟨lw_p2, List.forall_mem_cons.mpr ⟨lw_p3, List.forall_mem_cons.mpr ⟨lw_p4, List.forall_mem_cons.mpr ⟨lw_p5, List.forall_mem_cons.mpr ⟨lw_p6, List.forall_mem_cons.mpr ⟨lw_p7, List.forall_mem_cons.mpr ⟨lw_p8, List.forall_mem_cons.mpr ⟨lw_p9, List.forall_mem_cons.mpr ⟨lw_p10, List.forall_mem_cons.mpr ⟨lw_p11, List.forall_mem_cons.mpr ⟨lw_p12, List.forall_mem_cons.mpr ⟨lw_p13, List.forall_mem_cons.mpr ⟨lw_p14, List.forall_mem_cons.mpr ⟨lw_p15, fun _ h => absurd h List.not_mem_nil⟩⟩⟩⟩⟩⟩⟩⟩⟩⟩⟩⟩⟩⟩⟩⟩
theorem lw_p16 : lw_okq (⟨"BraidHornsModel", "isFree", "(I)Z"⟩, 12) := ⟨⟨by decide +kernel, by decide +kernel⟩, List.mem_of_getElem? (i := 475) (by decide +kernel), List.mem_of_getElem? (i := 579) (by decide +kernel), List.mem_of_getElem? (i := 580) (by decide +kernel)⟩
theorem lw_p17 : lw_okq (⟨"BraidHornsModel", "carrierIn", "(I)I"⟩, 12) := ⟨⟨by decide +kernel, by decide +kernel⟩, List.mem_of_getElem? (i := 475) (by decide +kernel), List.mem_of_getElem? (i := 583) (by decide +kernel), List.mem_of_getElem? (i := 584) (by decide +kernel)⟩
theorem lw_p18 : lw_okq (⟨"BraidHornsModel", "otherSide", "(I)I"⟩, 12) := ⟨⟨by decide +kernel, by decide +kernel⟩, List.mem_of_getElem? (i := 475) (by decide +kernel), List.mem_of_getElem? (i := 587) (by decide +kernel), List.mem_of_getElem? (i := 588) (by decide +kernel)⟩
theorem lw_p19 : lw_okq (⟨"BraidHornsModel", "carrierNow", "(II)I"⟩, 12) := ⟨⟨by decide +kernel, by decide +kernel⟩, List.mem_of_getElem? (i := 475) (by decide +kernel), List.mem_of_getElem? (i := 591) (by decide +kernel), List.mem_of_getElem? (i := 592) (by decide +kernel)⟩
theorem lw_p20 : lw_okq (⟨"BraidHornsModel", "fill", "(I)V"⟩, 12) := ⟨⟨by decide +kernel, by decide +kernel⟩, List.mem_of_getElem? (i := 475) (by decide +kernel), List.mem_of_getElem? (i := 595) (by decide +kernel), List.mem_of_getElem? (i := 596) (by decide +kernel)⟩
theorem lw_p21 : lw_okq (⟨"BraidHornsModel", "takeOutNow", "(I)V"⟩, 12) := ⟨⟨by decide +kernel, by decide +kernel⟩, List.mem_of_getElem? (i := 475) (by decide +kernel), List.mem_of_getElem? (i := 603) (by decide +kernel), List.mem_of_getElem? (i := 604) (by decide +kernel)⟩
theorem lw_p22 : lw_okq (⟨"BraidHornsModel", "takePlaces", "()V"⟩, 12) := ⟨⟨by decide +kernel, by decide +kernel⟩, List.mem_of_getElem? (i := 475) (by decide +kernel), List.mem_of_getElem? (i := 611) (by decide +kernel), List.mem_of_getElem? (i := 612) (by decide +kernel)⟩
theorem lw_p23 : lw_okq (⟨"BraidHornsModel", "sum", "(I)I"⟩, 12) := ⟨⟨by decide +kernel, by decide +kernel⟩, List.mem_of_getElem? (i := 475) (by decide +kernel), List.mem_of_getElem? (i := 615) (by decide +kernel), List.mem_of_getElem? (i := 616) (by decide +kernel)⟩
theorem lw_p24 : lw_okq (⟨"BraidHornsModel", "isEmpty", "()Z"⟩, 12) := ⟨⟨by decide +kernel, by decide +kernel⟩, List.mem_of_getElem? (i := 475) (by decide +kernel), List.mem_of_getElem? (i := 619) (by decide +kernel), List.mem_of_getElem? (i := 620) (by decide +kernel)⟩
theorem lw_p25 : lw_okq (⟨"BraidHornsModel", "meetAt", "()I"⟩, 12) := ⟨⟨by decide +kernel, by decide +kernel⟩, List.mem_of_getElem? (i := 475) (by decide +kernel), List.mem_of_getElem? (i := 623) (by decide +kernel), List.mem_of_getElem? (i := 624) (by decide +kernel)⟩
theorem lw_p26 : lw_okq (⟨"BraidHornsModel", "whyNotRun", "(I)I"⟩, 12) := ⟨⟨by decide +kernel, by decide +kernel⟩, List.mem_of_getElem? (i := 475) (by decide +kernel), List.mem_of_getElem? (i := 634) (by decide +kernel), List.mem_of_getElem? (i := 635) (by decide +kernel)⟩
theorem lw_p27 : lw_okq (⟨"BraidHornsModel", "runNow", "(I)I"⟩, 12) := ⟨⟨by decide +kernel, by decide +kernel⟩, List.mem_of_getElem? (i := 475) (by decide +kernel), List.mem_of_getElem? (i := 638) (by decide +kernel), List.mem_of_getElem? (i := 639) (by decide +kernel)⟩
theorem lw_p28 : lw_okq (⟨"BraidHornsModel", "step", "()V"⟩, 12) := ⟨⟨by decide +kernel, by decide +kernel⟩, List.mem_of_getElem? (i := 475) (by decide +kernel), List.mem_of_getElem? (i := 643) (by decide +kernel), List.mem_of_getElem? (i := 644) (by decide +kernel)⟩
theorem lw_p29 : lw_okq (⟨"BraidHornsModel", "whyNotEnd", "(II)I"⟩, 12) := ⟨⟨by decide +kernel, by decide +kernel⟩, List.mem_of_getElem? (i := 475) (by decide +kernel), List.mem_of_getElem? (i := 651) (by decide +kernel), List.mem_of_getElem? (i := 652) (by decide +kernel)⟩
theorem lw_p30 : lw_okq (⟨"BraidHornsModel", "tieNow", "(I)V"⟩, 12) := ⟨⟨by decide +kernel, by decide +kernel⟩, List.mem_of_getElem? (i := 475) (by decide +kernel), List.mem_of_getElem? (i := 659) (by decide +kernel), List.mem_of_getElem? (i := 660) (by decide +kernel)⟩
theorem lw_p31 : lw_okq (⟨"BraidHornsModel", "refillNow", "(I)V"⟩, 12) := ⟨⟨by decide +kernel, by decide +kernel⟩, List.mem_of_getElem? (i := 475) (by decide +kernel), List.mem_of_getElem? (i := 667) (by decide +kernel), List.mem_of_getElem? (i := 668) (by decide +kernel)⟩
def lw_privs_2 : List (MethodName × Nat) := [(⟨"BraidHornsModel", "isFree", "(I)Z"⟩, 12), (⟨"BraidHornsModel", "carrierIn", "(I)I"⟩, 12), (⟨"BraidHornsModel", "otherSide", "(I)I"⟩, 12), (⟨"BraidHornsModel", "carrierNow", "(II)I"⟩, 12), (⟨"BraidHornsModel", "fill", "(I)V"⟩, 12), (⟨"BraidHornsModel", "takeOutNow", "(I)V"⟩, 12), (⟨"BraidHornsModel", "takePlaces", "()V"⟩, 12), (⟨"BraidHornsModel", "sum", "(I)I"⟩, 12), (⟨"BraidHornsModel", "isEmpty", "()Z"⟩, 12), (⟨"BraidHornsModel", "meetAt", "()I"⟩, 12), (⟨"BraidHornsModel", "whyNotRun", "(I)I"⟩, 12), (⟨"BraidHornsModel", "runNow", "(I)I"⟩, 12), (⟨"BraidHornsModel", "step", "()V"⟩, 12), (⟨"BraidHornsModel", "whyNotEnd", "(II)I"⟩, 12), (⟨"BraidHornsModel", "tieNow", "(I)V"⟩, 12), (⟨"BraidHornsModel", "refillNow", "(I)V"⟩, 12)]
theorem lw_r2 : ∀ q ∈ lw_privs_2, lw_okq q := List.forall_mem_cons.mpr ⟨lw_p16, List.forall_mem_cons.mpr ⟨lw_p17, List.forall_mem_cons.mpr ⟨lw_p18, List.forall_mem_cons.mpr ⟨lw_p19, List.forall_mem_cons.mpr ⟨lw_p20, List.forall_mem_cons.mpr ⟨lw_p21, List.forall_mem_cons.mpr ⟨lw_p22, List.forall_mem_cons.mpr ⟨lw_p23, List.forall_mem_cons.mpr ⟨lw_p24, List.forall_mem_cons.mpr ⟨lw_p25, List.forall_mem_cons.mpr ⟨lw_p26, List.forall_mem_cons.mpr ⟨lw_p27, List.forall_mem_cons.mpr ⟨lw_p28, List.forall_mem_cons.mpr ⟨lw_p29, List.forall_mem_cons.mpr ⟨lw_p30, List.forall_mem_cons.mpr ⟨lw_p31, fun _ h => absurd h List.not_mem_nil⟩⟩⟩⟩⟩⟩⟩⟩⟩⟩⟩⟩⟩⟩⟩⟩
theorem lw_p32 : lw_okq (⟨"BraidHornsModel", "set", "()I"⟩, 12) := ⟨⟨by decide +kernel, by decide +kernel⟩, List.mem_of_getElem? (i := 475) (by decide +kernel), List.mem_of_getElem? (i := 687) (by decide +kernel), List.mem_of_getElem? (i := 688) (by decide +kernel)⟩
theorem lw_p33 : lw_okq (⟨"BraidHornsModel", "meetsIn", "()I"⟩, 12) := ⟨⟨by decide +kernel, by decide +kernel⟩, List.mem_of_getElem? (i := 475) (by decide +kernel), List.mem_of_getElem? (i := 695) (by decide +kernel), List.mem_of_getElem? (i := 696) (by decide +kernel)⟩
theorem lw_p34 : lw_okq (⟨"BraidHornsModel", "stepPlaces", "()V"⟩, 12) := ⟨⟨by decide +kernel, by decide +kernel⟩, List.mem_of_getElem? (i := 475) (by decide +kernel), List.mem_of_getElem? (i := 699) (by decide +kernel), List.mem_of_getElem? (i := 700) (by decide +kernel)⟩
theorem lw_p35 : lw_okq (⟨"BraidHornsModel", "carrierTurnedTo", "(I)I"⟩, 12) := ⟨⟨by decide +kernel, by decide +kernel⟩, List.mem_of_getElem? (i := 475) (by decide +kernel), List.mem_of_getElem? (i := 703) (by decide +kernel), List.mem_of_getElem? (i := 704) (by decide +kernel)⟩
theorem lw_p36 : lw_okq (⟨"BraidHornsModel", "canAdd", "(I)Z"⟩, 12) := ⟨⟨by decide +kernel, by decide +kernel⟩, List.mem_of_getElem? (i := 475) (by decide +kernel), List.mem_of_getElem? (i := 711) (by decide +kernel), List.mem_of_getElem? (i := 712) (by decide +kernel)⟩
theorem lw_p37 : lw_okq (⟨"BraidHornsModel", "areBack", "()Z"⟩, 12) := ⟨⟨by decide +kernel, by decide +kernel⟩, List.mem_of_getElem? (i := 475) (by decide +kernel), List.mem_of_getElem? (i := 723) (by decide +kernel), List.mem_of_getElem? (i := 724) (by decide +kernel)⟩
theorem lw_p38 : lw_okq (⟨"BraidHornsModel", "isTaken", "(I)Z"⟩, 12) := ⟨⟨by decide +kernel, by decide +kernel⟩, List.mem_of_getElem? (i := 475) (by decide +kernel), List.mem_of_getElem? (i := 727) (by decide +kernel), List.mem_of_getElem? (i := 728) (by decide +kernel)⟩
theorem lw_p39 : lw_okq (⟨"BraidHornsModel", "leastElls", "()I"⟩, 12) := ⟨⟨by decide +kernel, by decide +kernel⟩, List.mem_of_getElem? (i := 475) (by decide +kernel), List.mem_of_getElem? (i := 735) (by decide +kernel), List.mem_of_getElem? (i := 736) (by decide +kernel)⟩
theorem lw_p40 : lw_okq (⟨"BraidHornsModel", "readPad", "()Z"⟩, 12) := ⟨⟨by decide +kernel, by decide +kernel⟩, List.mem_of_getElem? (i := 475) (by decide +kernel), List.mem_of_getElem? (i := 752) (by decide +kernel), List.mem_of_getElem? (i := 753) (by decide +kernel)⟩
theorem lw_p41 : lw_okq (⟨"BraidHornsModel", "readOrder", "()Z"⟩, 12) := ⟨⟨by decide +kernel, by decide +kernel⟩, List.mem_of_getElem? (i := 475) (by decide +kernel), List.mem_of_getElem? (i := 756) (by decide +kernel), List.mem_of_getElem? (i := 757) (by decide +kernel)⟩
theorem lw_p42 : lw_okq (⟨"BraidHornsModel", "number", "(I)I"⟩, 12) := ⟨⟨by decide +kernel, by decide +kernel⟩, List.mem_of_getElem? (i := 475) (by decide +kernel), List.mem_of_getElem? (i := 760) (by decide +kernel), List.mem_of_getElem? (i := 761) (by decide +kernel)⟩
theorem lw_p43 : lw_okq (⟨"BraidHornsModel", "sees", "(II)Z"⟩, 12) := ⟨⟨by decide +kernel, by decide +kernel⟩, List.mem_of_getElem? (i := 475) (by decide +kernel), List.mem_of_getElem? (i := 764) (by decide +kernel), List.mem_of_getElem? (i := 765) (by decide +kernel)⟩
theorem lw_p44 : lw_okq (⟨"BraidHornsModel", "takes", "(I)Z"⟩, 12) := ⟨⟨by decide +kernel, by decide +kernel⟩, List.mem_of_getElem? (i := 475) (by decide +kernel), List.mem_of_getElem? (i := 768) (by decide +kernel), List.mem_of_getElem? (i := 769) (by decide +kernel)⟩
theorem lw_p45 : lw_okq (⟨"BraidHornsModel", "whyNot", "(I)I"⟩, 12) := ⟨⟨by decide +kernel, by decide +kernel⟩, List.mem_of_getElem? (i := 475) (by decide +kernel), List.mem_of_getElem? (i := 776) (by decide +kernel), List.mem_of_getElem? (i := 777) (by decide +kernel)⟩
theorem lw_p46 : lw_okq (⟨"BraidHornsModel", "doOrder", "(I)V"⟩, 12) := ⟨⟨by decide +kernel, by decide +kernel⟩, List.mem_of_getElem? (i := 475) (by decide +kernel), List.mem_of_getElem? (i := 780) (by decide +kernel), List.mem_of_getElem? (i := 781) (by decide +kernel)⟩
def lw_privs_3 : List (MethodName × Nat) := [(⟨"BraidHornsModel", "set", "()I"⟩, 12), (⟨"BraidHornsModel", "meetsIn", "()I"⟩, 12), (⟨"BraidHornsModel", "stepPlaces", "()V"⟩, 12), (⟨"BraidHornsModel", "carrierTurnedTo", "(I)I"⟩, 12), (⟨"BraidHornsModel", "canAdd", "(I)Z"⟩, 12), (⟨"BraidHornsModel", "areBack", "()Z"⟩, 12), (⟨"BraidHornsModel", "isTaken", "(I)Z"⟩, 12), (⟨"BraidHornsModel", "leastElls", "()I"⟩, 12), (⟨"BraidHornsModel", "readPad", "()Z"⟩, 12), (⟨"BraidHornsModel", "readOrder", "()Z"⟩, 12), (⟨"BraidHornsModel", "number", "(I)I"⟩, 12), (⟨"BraidHornsModel", "sees", "(II)Z"⟩, 12), (⟨"BraidHornsModel", "takes", "(I)Z"⟩, 12), (⟨"BraidHornsModel", "whyNot", "(I)I"⟩, 12), (⟨"BraidHornsModel", "doOrder", "(I)V"⟩, 12)]
theorem lw_r3 : ∀ q ∈ lw_privs_3, lw_okq q := List.forall_mem_cons.mpr ⟨lw_p32, List.forall_mem_cons.mpr ⟨lw_p33, List.forall_mem_cons.mpr ⟨lw_p34, List.forall_mem_cons.mpr ⟨lw_p35, List.forall_mem_cons.mpr ⟨lw_p36, List.forall_mem_cons.mpr ⟨lw_p37, List.forall_mem_cons.mpr ⟨lw_p38, List.forall_mem_cons.mpr ⟨lw_p39, List.forall_mem_cons.mpr ⟨lw_p40, List.forall_mem_cons.mpr ⟨lw_p41, List.forall_mem_cons.mpr ⟨lw_p42, List.forall_mem_cons.mpr ⟨lw_p43, List.forall_mem_cons.mpr ⟨lw_p44, List.forall_mem_cons.mpr ⟨lw_p45, List.forall_mem_cons.mpr ⟨lw_p46, fun _ h => absurd h List.not_mem_nil⟩⟩⟩⟩⟩⟩⟩⟩⟩⟩⟩⟩⟩⟩⟩
def lw_privs : List (MethodName × Nat) := lw_privs_1 ++ (lw_privs_2 ++ (lw_privs_3))
def lw_tbl : List Cond := k2_sels lw_privs ++ tables_1
theorem lw_privs_ok : ∀ q ∈ lw_privs, lw_okq q := by
  show ∀ q ∈ lw_privs_1 ++ (lw_privs_2 ++ (lw_privs_3)), lw_okq q
  exact List.forall_mem_append.mpr ⟨lw_r1, List.forall_mem_append.mpr ⟨lw_r2, lw_r3⟩⟩
def R_law : String := "BraidHornsLaw"
end
section
/-! names of classes, fields, methods, their code (extracted by gen_code.py) -/
def RX0 : String := "BraidHorns$Carrier"
def TX0 : u_T := fun k => match k with
  | 0 => ("BraidHorns$Carrier", "there", "Z", false)
  | 1 => ("BraidHorns$Carrier", "place", "I", false)
  | 2 => ("BraidHorns$Carrier", "ells", "I", false)
  | 3 => ("BraidHorns$Carrier", "broken", "Z", false)
  | 4 => ("BraidHorns$Carrier", "inner", "I", false)
  | 5 => ("BraidHorns$Carrier", "outer", "I", false)
  | _ => ("BraidHorns$Carrier", "spent", "I", false)
def tyX0 : Nat → FieldType := fun k => match k with
  | 0 => .boolean
  | 1 => .int
  | 2 => .int
  | 3 => .boolean
  | 4 => .int
  | 5 => .int
  | _ => .int
theorem nmX0 : ∀ a, a < 7 → ∀ b, b < 7 → a ≠ b → (TX0 a).2.1 ≠ (TX0 b).2.1 := by decide +kernel
theorem tyX0_ok : ∀ k, k < 7 → parseFieldDescriptor (TX0 k).2.2.1 = some (tyX0 k) := by decide +kernel
def RX2 : String := "BraidHorns$Pad"
def TX2 : u_T := fun k => match k with
  | 0 => ("BraidHorns$Pad", "signs", "[C", true)
  | _ => ("BraidHorns$Pad", "length", "I", false)
def tyX2 : Nat → FieldType := fun k => match k with
  | 0 => .array .char
  | _ => .int
theorem nmX2 : ∀ a, a < 2 → ∀ b, b < 2 → a ≠ b → (TX2 a).2.1 ≠ (TX2 b).2.1 := by decide +kernel
theorem tyX2_ok : ∀ k, k < 2 → parseFieldDescriptor (TX2 k).2.2.1 = some (tyX2 k) := by decide +kernel
def RX3 : String := "BraidHorns$Track"
def TX3 : u_T := fun k => match k with
  | 0 => ("BraidHorns$Track", "settings", "[I", true)
  | 1 => ("BraidHorns$Track", "carriers", "[LBraidHorns$Carrier;", true)
  | 2 => ("BraidHorns$Track", "steps", "I", false)
  | 3 => ("BraidHorns$Track", "cord", "I", false)
  | 4 => ("BraidHorns$Track", "knots", "I", false)
  | 5 => ("BraidHorns$Track", "waste", "I", false)
  | 6 => ("BraidHorns$Track", "filled", "I", false)
  | 7 => ("BraidHorns$Track", "spent", "I", false)
  | _ => ("BraidHorns$Track", "reason", "I", false)
def tyX3 : Nat → FieldType := fun k => match k with
  | 0 => .array .int
  | 1 => .array (.object "BraidHorns$Carrier")
  | 2 => .int
  | 3 => .int
  | 4 => .int
  | 5 => .int
  | 6 => .int
  | 7 => .int
  | _ => .int
theorem nmX3 : ∀ a, a < 9 → ∀ b, b < 9 → a ≠ b → (TX3 a).2.1 ≠ (TX3 b).2.1 := by decide +kernel
theorem tyX3_ok : ∀ k, k < 9 → parseFieldDescriptor (TX3 k).2.2.1 = some (tyX3 k) := by decide +kernel
def RX4 : String := "BraidHorns"
def TX4 : u_T := fun k => match k with
  | 0 => ("BraidHorns", "track", "LBraidHorns$Track;", true)
  | 1 => ("BraidHorns", "history", "[LBraidHorns$Track;", true)
  | 2 => ("BraidHorns", "changes", "I", false)
  | 3 => ("BraidHorns", "slots", "[LBraidHorns$Track;", true)
  | 4 => ("BraidHorns", "saved", "[Z", true)
  | _ => ("BraidHorns", "pad", "LBraidHorns$Pad;", true)
def tyX4 : Nat → FieldType := fun k => match k with
  | 0 => .object "BraidHorns$Track"
  | 1 => .array (.object "BraidHorns$Track")
  | 2 => .int
  | 3 => .array (.object "BraidHorns$Track")
  | 4 => .array .boolean
  | _ => .object "BraidHorns$Pad"
theorem nmX4 : ∀ a, a < 6 → ∀ b, b < 6 → a ≠ b → (TX4 a).2.1 ≠ (TX4 b).2.1 := by decide +kernel
theorem tyX4_ok : ∀ k, k < 6 → parseFieldDescriptor (TX4 k).2.2.1 = some (tyX4 k) := by decide +kernel
def RX5 : String := "BraidHornsModel"
def TX5 : u_T := fun k => match k with
  | 0 => ("BraidHornsModel", "z", "[I", true)
  | 1 => ("BraidHornsModel", "past", "[I", true)
  | 2 => ("BraidHornsModel", "states", "I", false)
  | 3 => ("BraidHornsModel", "slots", "[I", true)
  | 4 => ("BraidHornsModel", "isSaved", "[Z", true)
  | 5 => ("BraidHornsModel", "pad", "[I", true)
  | 6 => ("BraidHornsModel", "typed", "I", false)
  | 7 => ("BraidHornsModel", "places", "[I", true)
  | 8 => ("BraidHornsModel", "placeMany", "I", false)
  | 9 => ("BraidHornsModel", "spot", "I", false)
  | 10 => ("BraidHornsModel", "told", "[I", true)
  | _ => ("BraidHornsModel", "toldMany", "I", false)
def tyX5 : Nat → FieldType := fun k => match k with
  | 0 => .array .int
  | 1 => .array .int
  | 2 => .int
  | 3 => .array .int
  | 4 => .array .boolean
  | 5 => .array .int
  | 6 => .int
  | 7 => .array .int
  | 8 => .int
  | 9 => .int
  | 10 => .array .int
  | _ => .int
theorem nmX5 : ∀ a, a < 12 → ∀ b, b < 12 → a ≠ b → (TX5 a).2.1 ≠ (TX5 b).2.1 := by decide +kernel
theorem tyX5_ok : ∀ k, k < 12 → parseFieldDescriptor (TX5 k).2.2.1 = some (tyX5 k) := by decide +kernel
end
section
/-! the program as data: an instruction with its length, its resolved operands, its constant, the places of its words in lw_tbl -/
abbrev xEn : Type := Instr × Nat × Nat × Nat × Value × List Nat
/-- BraidHorns$Carrier.<init>()V -/
def xI_0 : Nat → Option xEn := fun pc => cond (Nat.ble 1 pc) (cond (Nat.ble 4 pc) (cond (Nat.beq pc 4) (some (.return_, 1, 0, 0, .null, [])) none) (cond (Nat.beq pc 1) (some (.invokespecial 3, 3, 1000, 0, .null, [77, 63, 64])) none)) (cond (Nat.beq pc 0) (some (.aload_n 0, 1, 0, 0, .null, [])) none)
/-- BraidHorns$Carrier.begin(II)V -/
def xI_1 : Nat → Option xEn := fun pc => cond (Nat.ble 17 pc) (cond (Nat.ble 26 pc) (cond (Nat.ble 31 pc) (cond (Nat.ble 32 pc) (cond (Nat.ble 35 pc) (cond (Nat.beq pc 35) (some (.return_, 1, 0, 0, .null, [])) none) (cond (Nat.beq pc 32) (some (.putfield 31, 3, 0, 6, .null, [88])) none)) (cond (Nat.beq pc 31) (some (.iconst 0, 1, 0, 0, .int 0, [])) none)) (cond (Nat.ble 27 pc) (cond (Nat.ble 30 pc) (cond (Nat.beq pc 30) (some (.aload_n 0, 1, 0, 0, .null, [])) none) (cond (Nat.beq pc 27) (some (.putfield 28, 3, 0, 5, .null, [87])) none)) (cond (Nat.beq pc 26) (some (.iconst 0, 1, 0, 0, .int 0, [])) none))) (cond (Nat.ble 21 pc) (cond (Nat.ble 22 pc) (cond (Nat.ble 25 pc) (cond (Nat.beq pc 25) (some (.aload_n 0, 1, 0, 0, .null, [])) none) (cond (Nat.beq pc 22) (some (.putfield 25, 3, 0, 4, .null, [86])) none)) (cond (Nat.beq pc 21) (some (.iconst 0, 1, 0, 0, .int 0, [])) none)) (cond (Nat.ble 20 pc) (cond (Nat.beq pc 20) (some (.aload_n 0, 1, 0, 0, .null, [])) none) (cond (Nat.beq pc 17) (some (.putfield 22, 3, 0, 3, .null, [84])) none)))) (cond (Nat.ble 7 pc) (cond (Nat.ble 12 pc) (cond (Nat.ble 15 pc) (cond (Nat.ble 16 pc) (cond (Nat.beq pc 16) (some (.iconst 0, 1, 0, 0, .int 0, [])) none) (cond (Nat.beq pc 15) (some (.aload_n 0, 1, 0, 0, .null, [])) none)) (cond (Nat.beq pc 12) (some (.putfield 19, 3, 0, 2, .null, [82])) none)) (cond (Nat.ble 10 pc) (cond (Nat.ble 11 pc) (cond (Nat.beq pc 11) (some (.iload_n 2, 1, 0, 0, .null, [])) none) (cond (Nat.beq pc 10) (some (.aload_n 0, 1, 0, 0, .null, [])) none)) (cond (Nat.beq pc 7) (some (.putfield 15, 3, 0, 1, .null, [80])) none))) (cond (Nat.ble 2 pc) (cond (Nat.ble 5 pc) (cond (Nat.ble 6 pc) (cond (Nat.beq pc 6) (some (.iload_n 1, 1, 0, 0, .null, [])) none) (cond (Nat.beq pc 5) (some (.aload_n 0, 1, 0, 0, .null, [])) none)) (cond (Nat.beq pc 2) (some (.putfield 9, 3, 0, 0, .null, [78])) none)) (cond (Nat.ble 1 pc) (cond (Nat.beq pc 1) (some (.iconst 1, 1, 0, 0, .int 1, [])) none) (cond (Nat.beq pc 0) (some (.aload_n 0, 1, 0, 0, .null, [])) none))))
/-- BraidHorns$Carrier.copyCarrier(LBraidHorns$Carrier;)V -/
def xI_2 : Nat → Option xEn := fun pc => cond (Nat.ble 26 pc) (cond (Nat.ble 41 pc) (cond (Nat.ble 49 pc) (cond (Nat.ble 53 pc) (cond (Nat.ble 56 pc) (cond (Nat.beq pc 56) (some (.return_, 1, 0, 0, .null, [])) none) (cond (Nat.beq pc 53) (some (.putfield 31, 3, 0, 6, .null, [88])) none)) (cond (Nat.ble 50 pc) (cond (Nat.beq pc 50) (some (.getfield 31, 3, 0, 6, .null, [88])) none) (cond (Nat.beq pc 49) (some (.aload_n 1, 1, 0, 0, .null, [])) none))) (cond (Nat.ble 45 pc) (cond (Nat.ble 48 pc) (cond (Nat.beq pc 48) (some (.aload_n 0, 1, 0, 0, .null, [])) none) (cond (Nat.beq pc 45) (some (.putfield 28, 3, 0, 5, .null, [87])) none)) (cond (Nat.ble 42 pc) (cond (Nat.beq pc 42) (some (.getfield 28, 3, 0, 5, .null, [87])) none) (cond (Nat.beq pc 41) (some (.aload_n 1, 1, 0, 0, .null, [])) none)))) (cond (Nat.ble 33 pc) (cond (Nat.ble 37 pc) (cond (Nat.ble 40 pc) (cond (Nat.beq pc 40) (some (.aload_n 0, 1, 0, 0, .null, [])) none) (cond (Nat.beq pc 37) (some (.putfield 25, 3, 0, 4, .null, [86])) none)) (cond (Nat.ble 34 pc) (cond (Nat.beq pc 34) (some (.getfield 25, 3, 0, 4, .null, [86])) none) (cond (Nat.beq pc 33) (some (.aload_n 1, 1, 0, 0, .null, [])) none))) (cond (Nat.ble 29 pc) (cond (Nat.ble 32 pc) (cond (Nat.beq pc 32) (some (.aload_n 0, 1, 0, 0, .null, [])) none) (cond (Nat.beq pc 29) (some (.putfield 22, 3, 0, 3, .null, [84])) none)) (cond (Nat.beq pc 26) (some (.getfield 22, 3, 0, 3, .null, [84])) none)))) (cond (Nat.ble 13 pc) (cond (Nat.ble 18 pc) (cond (Nat.ble 24 pc) (cond (Nat.ble 25 pc) (cond (Nat.beq pc 25) (some (.aload_n 1, 1, 0, 0, .null, [])) none) (cond (Nat.beq pc 24) (some (.aload_n 0, 1, 0, 0, .null, [])) none)) (cond (Nat.ble 21 pc) (cond (Nat.beq pc 21) (some (.putfield 19, 3, 0, 2, .null, [82])) none) (cond (Nat.beq pc 18) (some (.getfield 19, 3, 0, 2, .null, [82])) none))) (cond (Nat.ble 16 pc) (cond (Nat.ble 17 pc) (cond (Nat.beq pc 17) (some (.aload_n 1, 1, 0, 0, .null, [])) none) (cond (Nat.beq pc 16) (some (.aload_n 0, 1, 0, 0, .null, [])) none)) (cond (Nat.beq pc 13) (some (.putfield 15, 3, 0, 1, .null, [80])) none))) (cond (Nat.ble 5 pc) (cond (Nat.ble 9 pc) (cond (Nat.ble 10 pc) (cond (Nat.beq pc 10) (some (.getfield 15, 3, 0, 1, .null, [80])) none) (cond (Nat.beq pc 9) (some (.aload_n 1, 1, 0, 0, .null, [])) none)) (cond (Nat.ble 8 pc) (cond (Nat.beq pc 8) (some (.aload_n 0, 1, 0, 0, .null, [])) none) (cond (Nat.beq pc 5) (some (.putfield 9, 3, 0, 0, .null, [78])) none))) (cond (Nat.ble 1 pc) (cond (Nat.ble 2 pc) (cond (Nat.beq pc 2) (some (.getfield 9, 3, 0, 0, .null, [78])) none) (cond (Nat.beq pc 1) (some (.aload_n 1, 1, 0, 0, .null, [])) none)) (cond (Nat.beq pc 0) (some (.aload_n 0, 1, 0, 0, .null, [])) none))))
/-- BraidHorns$Motion.turned(I)I -/
def xI_3 : Nat → Option xEn := fun pc => cond (Nat.ble 15 pc) (cond (Nat.ble 20 pc) (cond (Nat.ble 23 pc) (cond (Nat.ble 24 pc) (cond (Nat.ble 25 pc) (cond (Nat.beq pc 25) (some (.ireturn, 1, 0, 0, .null, [])) none) (cond (Nat.beq pc 24) (some (.iadd, 1, 0, 0, .null, [])) none)) (cond (Nat.beq pc 23) (some (.irem, 1, 0, 0, .null, [])) none)) (cond (Nat.ble 21 pc) (cond (Nat.ble 22 pc) (cond (Nat.beq pc 22) (some (.iconst 4, 1, 0, 0, .int 4, [])) none) (cond (Nat.beq pc 21) (some (.iadd, 1, 0, 0, .null, [])) none)) (cond (Nat.beq pc 20) (some (.iload_n 2, 1, 0, 0, .null, [])) none))) (cond (Nat.ble 17 pc) (cond (Nat.ble 18 pc) (cond (Nat.ble 19 pc) (cond (Nat.beq pc 19) (some (.iload_n 0, 1, 0, 0, .null, [])) none) (cond (Nat.beq pc 18) (some (.imul, 1, 0, 0, .null, [])) none)) (cond (Nat.beq pc 17) (some (.iload_n 1, 1, 0, 0, .null, [])) none)) (cond (Nat.ble 16 pc) (cond (Nat.beq pc 16) (some (.iconst 4, 1, 0, 0, .int 4, [])) none) (cond (Nat.beq pc 15) (some (.istore_n 2, 1, 0, 0, .null, [])) none)))) (cond (Nat.ble 5 pc) (cond (Nat.ble 10 pc) (cond (Nat.ble 11 pc) (cond (Nat.ble 14 pc) (cond (Nat.beq pc 14) (some (.iconst 3, 1, 0, 0, .int 3, [])) none) (cond (Nat.beq pc 11) (some (.goto 4, 3, 15, 0, .null, [])) none)) (cond (Nat.beq pc 10) (some (.iconst 1, 1, 0, 0, .int 1, [])) none)) (cond (Nat.ble 6 pc) (cond (Nat.ble 7 pc) (cond (Nat.beq pc 7) (some (.ifCond .ne 7, 3, 14, 0, .null, [])) none) (cond (Nat.beq pc 6) (some (.irem, 1, 0, 0, .null, [])) none)) (cond (Nat.beq pc 5) (some (.iconst 2, 1, 0, 0, .int 2, [])) none))) (cond (Nat.ble 2 pc) (cond (Nat.ble 3 pc) (cond (Nat.ble 4 pc) (cond (Nat.beq pc 4) (some (.iload_n 1, 1, 0, 0, .null, [])) none) (cond (Nat.beq pc 3) (some (.istore_n 1, 1, 0, 0, .null, [])) none)) (cond (Nat.beq pc 2) (some (.idiv, 1, 0, 0, .null, [])) none)) (cond (Nat.ble 1 pc) (cond (Nat.beq pc 1) (some (.iconst 4, 1, 0, 0, .int 4, [])) none) (cond (Nat.beq pc 0) (some (.iload_n 0, 1, 0, 0, .null, [])) none))))
/-- BraidHorns$Motion.passed(II)I -/
def xI_4 : Nat → Option xEn := fun pc => cond (Nat.ble 50 pc) (cond (Nat.ble 63 pc) (cond (Nat.ble 71 pc) (cond (Nat.ble 73 pc) (cond (Nat.ble 74 pc) (cond (Nat.ble 75 pc) (cond (Nat.beq pc 75) (some (.ireturn, 1, 0, 0, .null, [])) none) (cond (Nat.beq pc 74) (some (.iload_n 0, 1, 0, 0, .null, [])) none)) (cond (Nat.beq pc 73) (some (.ireturn, 1, 0, 0, .null, [])) none)) (cond (Nat.ble 72 pc) (cond (Nat.beq pc 72) (some (.iadd, 1, 0, 0, .null, [])) none) (cond (Nat.beq pc 71) (some (.iload_n 2, 1, 0, 0, .null, [])) none))) (cond (Nat.ble 67 pc) (cond (Nat.ble 68 pc) (cond (Nat.ble 70 pc) (cond (Nat.beq pc 70) (some (.isub, 1, 0, 0, .null, [])) none) (cond (Nat.beq pc 68) (some (.bipush 6, 2, 0, 0, .int 6, [])) none)) (cond (Nat.beq pc 67) (some (.iload_n 0, 1, 0, 0, .null, [])) none)) (cond (Nat.ble 64 pc) (cond (Nat.beq pc 64) (some (.goto 9, 3, 73, 0, .null, [])) none) (cond (Nat.beq pc 63) (some (.isub, 1, 0, 0, .null, [])) none)))) (cond (Nat.ble 54 pc) (cond (Nat.ble 57 pc) (cond (Nat.ble 60 pc) (cond (Nat.ble 61 pc) (cond (Nat.beq pc 61) (some (.bipush 6, 2, 0, 0, .int 6, [])) none) (cond (Nat.beq pc 60) (some (.iload_n 0, 1, 0, 0, .null, [])) none)) (cond (Nat.beq pc 57) (some (.if_icmp .lt 10, 3, 67, 0, .null, [])) none)) (cond (Nat.ble 55 pc) (cond (Nat.beq pc 55) (some (.bipush 6, 2, 0, 0, .int 6, [])) none) (cond (Nat.beq pc 54) (some (.iload_n 0, 1, 0, 0, .null, [])) none))) (cond (Nat.ble 52 pc) (cond (Nat.ble 53 pc) (cond (Nat.beq pc 53) (some (.ireturn, 1, 0, 0, .null, [])) none) (cond (Nat.beq pc 52) (some (.isub, 1, 0, 0, .null, [])) none)) (cond (Nat.ble 51 pc) (cond (Nat.beq pc 51) (some (.iload_n 2, 1, 0, 0, .null, [])) none) (cond (Nat.beq pc 50) (some (.iadd, 1, 0, 0, .null, [])) none))))) (cond (Nat.ble 33 pc) (cond (Nat.ble 41 pc) (cond (Nat.ble 44 pc) (cond (Nat.ble 47 pc) (cond (Nat.ble 48 pc) (cond (Nat.beq pc 48) (some (.bipush 6, 2, 0, 0, .int 6, [])) none) (cond (Nat.beq pc 47) (some (.iload_n 0, 1, 0, 0, .null, [])) none)) (cond (Nat.beq pc 44) (some (.goto 9, 3, 53, 0, .null, [])) none)) (cond (Nat.ble 43 pc) (cond (Nat.beq pc 43) (some (.iadd, 1, 0, 0, .null, [])) none) (cond (Nat.beq pc 41) (some (.bipush 6, 2, 0, 0, .int 6, [])) none))) (cond (Nat.ble 36 pc) (cond (Nat.ble 37 pc) (cond (Nat.ble 40 pc) (cond (Nat.beq pc 40) (some (.iload_n 0, 1, 0, 0, .null, [])) none) (cond (Nat.beq pc 37) (some (.if_icmp .ge 10, 3, 47, 0, .null, [])) none)) (cond (Nat.beq pc 36) (some (.iload_n 2, 1, 0, 0, .null, [])) none)) (cond (Nat.ble 35 pc) (cond (Nat.beq pc 35) (some (.iadd, 1, 0, 0, .null, [])) none) (cond (Nat.beq pc 33) (some (.bipush 6, 2, 0, 0, .int 6, [])) none)))) (cond (Nat.ble 4 pc) (cond (Nat.ble 6 pc) (cond (Nat.ble 7 pc) (cond (Nat.ble 32 pc) (cond (Nat.beq pc 32) (some (.iload_n 0, 1, 0, 0, .null, [])) none) (cond (Nat.beq pc 7) (some (.lookupswitch 67 #[(0, 25), (2, 47)], 25, 0, 0, .null, [])) none)) (cond (Nat.beq pc 6) (some (.irem, 1, 0, 0, .null, [])) none)) (cond (Nat.ble 5 pc) (cond (Nat.beq pc 5) (some (.iconst 4, 1, 0, 0, .int 4, [])) none) (cond (Nat.beq pc 4) (some (.iload_n 0, 1, 0, 0, .null, [])) none))) (cond (Nat.ble 2 pc) (cond (Nat.ble 3 pc) (cond (Nat.beq pc 3) (some (.istore_n 2, 1, 0, 0, .null, [])) none) (cond (Nat.beq pc 2) (some (.imul, 1, 0, 0, .null, [])) none)) (cond (Nat.ble 1 pc) (cond (Nat.beq pc 1) (some (.iload_n 1, 1, 0, 0, .null, [])) none) (cond (Nat.beq pc 0) (some (.iconst 4, 1, 0, 0, .int 4, [])) none)))))
/-- BraidHorns$Carrier.move(I)V -/
def xI_5 : Nat → Option xEn := fun pc => cond (Nat.ble 56 pc) (cond (Nat.ble 76 pc) (cond (Nat.ble 83 pc) (cond (Nat.ble 87 pc) (cond (Nat.ble 88 pc) (cond (Nat.ble 91 pc) (cond (Nat.beq pc 91) (some (.return_, 1, 0, 0, .null, [])) none) (cond (Nat.beq pc 88) (some (.putfield 31, 3, 0, 6, .null, [88])) none)) (cond (Nat.beq pc 87) (some (.iadd, 1, 0, 0, .null, [])) none)) (cond (Nat.ble 86 pc) (cond (Nat.beq pc 86) (some (.iconst 1, 1, 0, 0, .int 1, [])) none) (cond (Nat.beq pc 83) (some (.getfield 31, 3, 0, 6, .null, [88])) none))) (cond (Nat.ble 78 pc) (cond (Nat.ble 81 pc) (cond (Nat.ble 82 pc) (cond (Nat.beq pc 82) (some (.dup, 1, 0, 0, .null, [])) none) (cond (Nat.beq pc 81) (some (.aload_n 0, 1, 0, 0, .null, [])) none)) (cond (Nat.beq pc 78) (some (.putfield 19, 3, 0, 2, .null, [82])) none)) (cond (Nat.ble 77 pc) (cond (Nat.beq pc 77) (some (.isub, 1, 0, 0, .null, [])) none) (cond (Nat.beq pc 76) (some (.iconst 1, 1, 0, 0, .int 1, [])) none)))) (cond (Nat.ble 65 pc) (cond (Nat.ble 71 pc) (cond (Nat.ble 72 pc) (cond (Nat.ble 73 pc) (cond (Nat.beq pc 73) (some (.getfield 19, 3, 0, 2, .null, [82])) none) (cond (Nat.beq pc 72) (some (.dup, 1, 0, 0, .null, [])) none)) (cond (Nat.beq pc 71) (some (.aload_n 0, 1, 0, 0, .null, [])) none)) (cond (Nat.ble 68 pc) (cond (Nat.beq pc 68) (some (.putfield 15, 3, 0, 1, .null, [80])) none) (cond (Nat.beq pc 65) (some (.invokestatic 40, 3, 4, 2, .null, [297, 229, 54])) none))) (cond (Nat.ble 62 pc) (cond (Nat.ble 63 pc) (cond (Nat.ble 64 pc) (cond (Nat.beq pc 64) (some (.iload_n 1, 1, 0, 0, .null, [])) none) (cond (Nat.beq pc 63) (some (.iload_n 2, 1, 0, 0, .null, [])) none)) (cond (Nat.beq pc 62) (some (.aload_n 0, 1, 0, 0, .null, [])) none)) (cond (Nat.ble 59 pc) (cond (Nat.beq pc 59) (some (.goto 3, 3, 62, 0, .null, [])) none) (cond (Nat.beq pc 56) (some (.putfield 28, 3, 0, 5, .null, [87])) none))))) (cond (Nat.ble 38 pc) (cond (Nat.ble 49 pc) (cond (Nat.ble 51 pc) (cond (Nat.ble 54 pc) (cond (Nat.ble 55 pc) (cond (Nat.beq pc 55) (some (.iadd, 1, 0, 0, .null, [])) none) (cond (Nat.beq pc 54) (some (.iconst 1, 1, 0, 0, .int 1, [])) none)) (cond (Nat.beq pc 51) (some (.getfield 28, 3, 0, 5, .null, [87])) none)) (cond (Nat.ble 50 pc) (cond (Nat.beq pc 50) (some (.dup, 1, 0, 0, .null, [])) none) (cond (Nat.beq pc 49) (some (.aload_n 0, 1, 0, 0, .null, [])) none))) (cond (Nat.ble 42 pc) (cond (Nat.ble 43 pc) (cond (Nat.ble 46 pc) (cond (Nat.beq pc 46) (some (.goto 16, 3, 62, 0, .null, [])) none) (cond (Nat.beq pc 43) (some (.putfield 25, 3, 0, 4, .null, [86])) none)) (cond (Nat.beq pc 42) (some (.iadd, 1, 0, 0, .null, [])) none)) (cond (Nat.ble 41 pc) (cond (Nat.beq pc 41) (some (.iconst 1, 1, 0, 0, .int 1, [])) none) (cond (Nat.beq pc 38) (some (.getfield 25, 3, 0, 4, .null, [86])) none)))) (cond (Nat.ble 9 pc) (cond (Nat.ble 11 pc) (cond (Nat.ble 36 pc) (cond (Nat.ble 37 pc) (cond (Nat.beq pc 37) (some (.dup, 1, 0, 0, .null, [])) none) (cond (Nat.beq pc 36) (some (.aload_n 0, 1, 0, 0, .null, [])) none)) (cond (Nat.beq pc 11) (some (.lookupswitch 51 #[(1, 25), (3, 38)], 25, 0, 0, .null, [])) none)) (cond (Nat.ble 10 pc) (cond (Nat.beq pc 10) (some (.irem, 1, 0, 0, .null, [])) none) (cond (Nat.beq pc 9) (some (.iconst 4, 1, 0, 0, .int 4, [])) none))) (cond (Nat.ble 4 pc) (cond (Nat.ble 7 pc) (cond (Nat.ble 8 pc) (cond (Nat.beq pc 8) (some (.iload_n 2, 1, 0, 0, .null, [])) none) (cond (Nat.beq pc 7) (some (.istore_n 2, 1, 0, 0, .null, [])) none)) (cond (Nat.beq pc 4) (some (.invokestatic 34, 3, 3, 1, .null, [294, 295, 54])) none)) (cond (Nat.ble 1 pc) (cond (Nat.beq pc 1) (some (.getfield 15, 3, 0, 1, .null, [80])) none) (cond (Nat.beq pc 0) (some (.aload_n 0, 1, 0, 0, .null, [])) none)))))
/-- BraidHorns$Motion.goesUp(I)Z -/
def xI_6 : Nat → Option xEn := fun pc => cond (Nat.ble 18 pc) (cond (Nat.ble 29 pc) (cond (Nat.ble 36 pc) (cond (Nat.ble 40 pc) (cond (Nat.ble 41 pc) (cond (Nat.beq pc 41) (some (.ireturn, 1, 0, 0, .null, [])) none) (cond (Nat.beq pc 40) (some (.iconst 0, 1, 0, 0, .int 0, [])) none)) (cond (Nat.ble 37 pc) (cond (Nat.beq pc 37) (some (.goto 4, 3, 41, 0, .null, [])) none) (cond (Nat.beq pc 36) (some (.iconst 1, 1, 0, 0, .int 1, [])) none))) (cond (Nat.ble 32 pc) (cond (Nat.ble 33 pc) (cond (Nat.beq pc 33) (some (.if_icmp .ne 7, 3, 40, 0, .null, [])) none) (cond (Nat.beq pc 32) (some (.iconst 1, 1, 0, 0, .int 1, [])) none)) (cond (Nat.beq pc 29) (some (.goto 4, 3, 33, 0, .null, [])) none))) (cond (Nat.ble 23 pc) (cond (Nat.ble 25 pc) (cond (Nat.ble 28 pc) (cond (Nat.beq pc 28) (some (.iconst 3, 1, 0, 0, .int 3, [])) none) (cond (Nat.beq pc 25) (some (.ifCond .eq 7, 3, 32, 0, .null, [])) none)) (cond (Nat.ble 24 pc) (cond (Nat.beq pc 24) (some (.iload_n 2, 1, 0, 0, .null, [])) none) (cond (Nat.beq pc 23) (some (.iload_n 1, 1, 0, 0, .null, [])) none))) (cond (Nat.ble 19 pc) (cond (Nat.ble 20 pc) (cond (Nat.beq pc 20) (some (.if_icmp .eq 16, 3, 36, 0, .null, [])) none) (cond (Nat.beq pc 19) (some (.iconst 2, 1, 0, 0, .int 2, [])) none)) (cond (Nat.beq pc 18) (some (.iload_n 1, 1, 0, 0, .null, [])) none)))) (cond (Nat.ble 7 pc) (cond (Nat.ble 12 pc) (cond (Nat.ble 16 pc) (cond (Nat.ble 17 pc) (cond (Nat.beq pc 17) (some (.istore_n 2, 1, 0, 0, .null, [])) none) (cond (Nat.beq pc 16) (some (.iconst 0, 1, 0, 0, .int 0, [])) none)) (cond (Nat.ble 13 pc) (cond (Nat.beq pc 13) (some (.goto 4, 3, 17, 0, .null, [])) none) (cond (Nat.beq pc 12) (some (.iconst 1, 1, 0, 0, .int 1, [])) none))) (cond (Nat.ble 8 pc) (cond (Nat.ble 9 pc) (cond (Nat.beq pc 9) (some (.ifCond .ne 7, 3, 16, 0, .null, [])) none) (cond (Nat.beq pc 8) (some (.irem, 1, 0, 0, .null, [])) none)) (cond (Nat.beq pc 7) (some (.iconst 2, 1, 0, 0, .int 2, [])) none))) (cond (Nat.ble 3 pc) (cond (Nat.ble 5 pc) (cond (Nat.ble 6 pc) (cond (Nat.beq pc 6) (some (.idiv, 1, 0, 0, .null, [])) none) (cond (Nat.beq pc 5) (some (.iconst 4, 1, 0, 0, .int 4, [])) none)) (cond (Nat.ble 4 pc) (cond (Nat.beq pc 4) (some (.iload_n 0, 1, 0, 0, .null, [])) none) (cond (Nat.beq pc 3) (some (.istore_n 1, 1, 0, 0, .null, [])) none))) (cond (Nat.ble 1 pc) (cond (Nat.ble 2 pc) (cond (Nat.beq pc 2) (some (.irem, 1, 0, 0, .null, [])) none) (cond (Nat.beq pc 1) (some (.iconst 4, 1, 0, 0, .int 4, [])) none)) (cond (Nat.beq pc 0) (some (.iload_n 0, 1, 0, 0, .null, [])) none))))
/-- BraidHorns$Carrier.tell(I)I -/
def xI_7 : Nat → Option xEn := fun pc => cond (Nat.ble 78 pc) (cond (Nat.ble 94 pc) (cond (Nat.ble 105 pc) (cond (Nat.ble 110 pc) (cond (Nat.ble 111 pc) (cond (Nat.ble 113 pc) (cond (Nat.beq pc 113) (some (.ireturn, 1, 0, 0, .null, [])) none) (cond (Nat.beq pc 111) (some (.bipush (-2), 2, 0, 0, .int (-2), [])) none)) (cond (Nat.beq pc 110) (some (.ireturn, 1, 0, 0, .null, [])) none)) (cond (Nat.ble 106 pc) (cond (Nat.ble 109 pc) (cond (Nat.beq pc 109) (some (.iconst 0, 1, 0, 0, .int 0, [])) none) (cond (Nat.beq pc 106) (some (.goto 4, 3, 110, 0, .null, [])) none)) (cond (Nat.beq pc 105) (some (.iconst 1, 1, 0, 0, .int 1, [])) none))) (cond (Nat.ble 96 pc) (cond (Nat.ble 99 pc) (cond (Nat.ble 102 pc) (cond (Nat.beq pc 102) (some (.ifCond .eq 7, 3, 109, 0, .null, [])) none) (cond (Nat.beq pc 99) (some (.invokestatic 44, 3, 6, 1, .null, [331, 332, 54])) none)) (cond (Nat.beq pc 96) (some (.getfield 15, 3, 0, 1, .null, [80])) none)) (cond (Nat.ble 95 pc) (cond (Nat.beq pc 95) (some (.aload_n 0, 1, 0, 0, .null, [])) none) (cond (Nat.beq pc 94) (some (.ireturn, 1, 0, 0, .null, [])) none)))) (cond (Nat.ble 85 pc) (cond (Nat.ble 89 pc) (cond (Nat.ble 90 pc) (cond (Nat.ble 91 pc) (cond (Nat.beq pc 91) (some (.getfield 31, 3, 0, 6, .null, [88])) none) (cond (Nat.beq pc 90) (some (.aload_n 0, 1, 0, 0, .null, [])) none)) (cond (Nat.beq pc 89) (some (.ireturn, 1, 0, 0, .null, [])) none)) (cond (Nat.ble 86 pc) (cond (Nat.beq pc 86) (some (.getfield 28, 3, 0, 5, .null, [87])) none) (cond (Nat.beq pc 85) (some (.aload_n 0, 1, 0, 0, .null, [])) none))) (cond (Nat.ble 80 pc) (cond (Nat.ble 81 pc) (cond (Nat.ble 84 pc) (cond (Nat.beq pc 84) (some (.ireturn, 1, 0, 0, .null, [])) none) (cond (Nat.beq pc 81) (some (.getfield 25, 3, 0, 4, .null, [86])) none)) (cond (Nat.beq pc 80) (some (.aload_n 0, 1, 0, 0, .null, [])) none)) (cond (Nat.ble 79 pc) (cond (Nat.beq pc 79) (some (.ireturn, 1, 0, 0, .null, [])) none) (cond (Nat.beq pc 78) (some (.iconst 0, 1, 0, 0, .int 0, [])) none))))) (cond (Nat.ble 60 pc) (cond (Nat.ble 67 pc) (cond (Nat.ble 71 pc) (cond (Nat.ble 74 pc) (cond (Nat.ble 75 pc) (cond (Nat.beq pc 75) (some (.goto 4, 3, 79, 0, .null, [])) none) (cond (Nat.beq pc 74) (some (.iconst 1, 1, 0, 0, .int 1, [])) none)) (cond (Nat.beq pc 71) (some (.ifCond .eq 7, 3, 78, 0, .null, [])) none)) (cond (Nat.ble 68 pc) (cond (Nat.beq pc 68) (some (.getfield 22, 3, 0, 3, .null, [84])) none) (cond (Nat.beq pc 67) (some (.aload_n 0, 1, 0, 0, .null, [])) none))) (cond (Nat.ble 62 pc) (cond (Nat.ble 63 pc) (cond (Nat.ble 66 pc) (cond (Nat.beq pc 66) (some (.ireturn, 1, 0, 0, .null, [])) none) (cond (Nat.beq pc 63) (some (.getfield 19, 3, 0, 2, .null, [82])) none)) (cond (Nat.beq pc 62) (some (.aload_n 0, 1, 0, 0, .null, [])) none)) (cond (Nat.ble 61 pc) (cond (Nat.beq pc 61) (some (.ireturn, 1, 0, 0, .null, [])) none) (cond (Nat.beq pc 60) (some (.irem, 1, 0, 0, .null, [])) none)))) (cond (Nat.ble 53 pc) (cond (Nat.ble 55 pc) (cond (Nat.ble 56 pc) (cond (Nat.ble 59 pc) (cond (Nat.beq pc 59) (some (.iconst 4, 1, 0, 0, .int 4, [])) none) (cond (Nat.beq pc 56) (some (.getfield 15, 3, 0, 1, .null, [80])) none)) (cond (Nat.beq pc 55) (some (.aload_n 0, 1, 0, 0, .null, [])) none)) (cond (Nat.ble 54 pc) (cond (Nat.beq pc 54) (some (.ireturn, 1, 0, 0, .null, [])) none) (cond (Nat.beq pc 53) (some (.idiv, 1, 0, 0, .null, [])) none))) (cond (Nat.ble 48 pc) (cond (Nat.ble 49 pc) (cond (Nat.ble 52 pc) (cond (Nat.beq pc 52) (some (.iconst 4, 1, 0, 0, .int 4, [])) none) (cond (Nat.beq pc 49) (some (.getfield 15, 3, 0, 1, .null, [80])) none)) (cond (Nat.beq pc 48) (some (.aload_n 0, 1, 0, 0, .null, [])) none)) (cond (Nat.ble 1 pc) (cond (Nat.beq pc 1) (some (.tableswitch 110 0 7 #[47, 54, 61, 66, 79, 84, 89, 94], 47, 0, 0, .null, [])) none) (cond (Nat.beq pc 0) (some (.iload_n 1, 1, 0, 0, .null, [])) none)))))
/-- BraidHorns$Motion.allTurned(J)J -/
def xI_8 : Nat → Option xEn := fun pc => cond (Nat.ble 27 pc) (cond (Nat.ble 43 pc) (cond (Nat.ble 47 pc) (cond (Nat.ble 51 pc) (cond (Nat.ble 53 pc) (cond (Nat.ble 54 pc) (cond (Nat.beq pc 54) (some (.lreturn, 1, 0, 0, .null, [])) none) (cond (Nat.beq pc 53) (some (.lor, 1, 0, 0, .null, [])) none)) (cond (Nat.beq pc 51) (some (.lload 8, 2, 0, 0, .null, [])) none)) (cond (Nat.ble 49 pc) (cond (Nat.beq pc 49) (some (.lload 6, 2, 0, 0, .null, [])) none) (cond (Nat.beq pc 47) (some (.lstore 8, 2, 0, 0, .null, [])) none))) (cond (Nat.ble 45 pc) (cond (Nat.ble 46 pc) (cond (Nat.beq pc 46) (some (.lor, 1, 0, 0, .null, [])) none) (cond (Nat.beq pc 45) (some (.lshl, 1, 0, 0, .null, [])) none)) (cond (Nat.ble 44 pc) (cond (Nat.beq pc 44) (some (.iconst 3, 1, 0, 0, .int 3, [])) none) (cond (Nat.beq pc 43) (some (.land, 1, 0, 0, .null, [])) none)))) (cond (Nat.ble 35 pc) (cond (Nat.ble 37 pc) (cond (Nat.ble 38 pc) (cond (Nat.ble 40 pc) (cond (Nat.beq pc 40) (some (.ldc2_w 21, 3, 0, 0, .long (18764998447377), [278])) none) (cond (Nat.beq pc 38) (some (.lload 4, 2, 0, 0, .null, [])) none)) (cond (Nat.beq pc 37) (some (.lushr, 1, 0, 0, .null, [])) none)) (cond (Nat.ble 36 pc) (cond (Nat.beq pc 36) (some (.iconst 1, 1, 0, 0, .int 1, [])) none) (cond (Nat.beq pc 35) (some (.land, 1, 0, 0, .null, [])) none))) (cond (Nat.ble 30 pc) (cond (Nat.ble 32 pc) (cond (Nat.beq pc 32) (some (.ldc2_w 19, 3, 0, 0, .long (-18764998447378), [277])) none) (cond (Nat.beq pc 30) (some (.lload 4, 2, 0, 0, .null, [])) none)) (cond (Nat.ble 28 pc) (cond (Nat.beq pc 28) (some (.lstore 6, 2, 0, 0, .null, [])) none) (cond (Nat.beq pc 27) (some (.lor, 1, 0, 0, .null, [])) none))))) (cond (Nat.ble 14 pc) (cond (Nat.ble 20 pc) (cond (Nat.ble 24 pc) (cond (Nat.ble 25 pc) (cond (Nat.ble 26 pc) (cond (Nat.beq pc 26) (some (.lushr, 1, 0, 0, .null, [])) none) (cond (Nat.beq pc 25) (some (.iconst 3, 1, 0, 0, .int 3, [])) none)) (cond (Nat.beq pc 24) (some (.land, 1, 0, 0, .null, [])) none)) (cond (Nat.ble 21 pc) (cond (Nat.beq pc 21) (some (.ldc2_w 17, 3, 0, 0, .long (150119987579016), [276])) none) (cond (Nat.beq pc 20) (some (.lload_n 2, 1, 0, 0, .null, [])) none))) (cond (Nat.ble 18 pc) (cond (Nat.ble 19 pc) (cond (Nat.beq pc 19) (some (.lshl, 1, 0, 0, .null, [])) none) (cond (Nat.beq pc 18) (some (.iconst 1, 1, 0, 0, .int 1, [])) none)) (cond (Nat.ble 17 pc) (cond (Nat.beq pc 17) (some (.land, 1, 0, 0, .null, [])) none) (cond (Nat.beq pc 14) (some (.ldc2_w 15, 3, 0, 0, .long (-150119987579017), [275])) none)))) (cond (Nat.ble 6 pc) (cond (Nat.ble 10 pc) (cond (Nat.ble 11 pc) (cond (Nat.ble 13 pc) (cond (Nat.beq pc 13) (some (.lload_n 2, 1, 0, 0, .null, [])) none) (cond (Nat.beq pc 11) (some (.lstore 4, 2, 0, 0, .null, [])) none)) (cond (Nat.beq pc 10) (some (.land, 1, 0, 0, .null, [])) none)) (cond (Nat.ble 7 pc) (cond (Nat.beq pc 7) (some (.ldc2_w 13, 3, 0, 0, .long (264917625139440), [274])) none) (cond (Nat.beq pc 6) (some (.lload_n 0, 1, 0, 0, .null, [])) none))) (cond (Nat.ble 4 pc) (cond (Nat.ble 5 pc) (cond (Nat.beq pc 5) (some (.lstore_n 2, 1, 0, 0, .null, [])) none) (cond (Nat.beq pc 4) (some (.land, 1, 0, 0, .null, [])) none)) (cond (Nat.ble 1 pc) (cond (Nat.beq pc 1) (some (.ldc2_w 11, 3, 0, 0, .long (16557351571215), [273])) none) (cond (Nat.beq pc 0) (some (.lload_n 0, 1, 0, 0, .null, [])) none)))))
/-- BraidHorns$Motion.toNextHorn(JI)J -/
def xI_9 : Nat → Option xEn := fun pc => cond (Nat.ble 12 pc) (cond (Nat.ble 17 pc) (cond (Nat.ble 19 pc) (cond (Nat.ble 20 pc) (cond (Nat.ble 21 pc) (cond (Nat.beq pc 21) (some (.lreturn, 1, 0, 0, .null, [])) none) (cond (Nat.beq pc 20) (some (.land, 1, 0, 0, .null, [])) none)) (cond (Nat.beq pc 19) (some (.lsub, 1, 0, 0, .null, [])) none)) (cond (Nat.ble 18 pc) (cond (Nat.beq pc 18) (some (.lconst 1, 1, 0, 0, .long 1, [])) none) (cond (Nat.beq pc 17) (some (.lshl, 1, 0, 0, .null, [])) none))) (cond (Nat.ble 14 pc) (cond (Nat.ble 15 pc) (cond (Nat.ble 16 pc) (cond (Nat.beq pc 16) (some (.iload_n 3, 1, 0, 0, .null, [])) none) (cond (Nat.beq pc 15) (some (.lconst 1, 1, 0, 0, .long 1, [])) none)) (cond (Nat.beq pc 14) (some (.lor, 1, 0, 0, .null, [])) none)) (cond (Nat.ble 13 pc) (cond (Nat.beq pc 13) (some (.lushr, 1, 0, 0, .null, [])) none) (cond (Nat.beq pc 12) (some (.isub, 1, 0, 0, .null, [])) none)))) (cond (Nat.ble 5 pc) (cond (Nat.ble 8 pc) (cond (Nat.ble 9 pc) (cond (Nat.ble 10 pc) (cond (Nat.beq pc 10) (some (.bipush 6, 2, 0, 0, .int 6, [])) none) (cond (Nat.beq pc 9) (some (.iload_n 3, 1, 0, 0, .null, [])) none)) (cond (Nat.beq pc 8) (some (.lload_n 0, 1, 0, 0, .null, [])) none)) (cond (Nat.ble 7 pc) (cond (Nat.beq pc 7) (some (.lshl, 1, 0, 0, .null, [])) none) (cond (Nat.beq pc 5) (some (.bipush 6, 2, 0, 0, .int 6, [])) none))) (cond (Nat.ble 2 pc) (cond (Nat.ble 3 pc) (cond (Nat.ble 4 pc) (cond (Nat.beq pc 4) (some (.lload_n 0, 1, 0, 0, .null, [])) none) (cond (Nat.beq pc 3) (some (.istore_n 3, 1, 0, 0, .null, [])) none)) (cond (Nat.beq pc 2) (some (.imul, 1, 0, 0, .null, [])) none)) (cond (Nat.ble 1 pc) (cond (Nat.beq pc 1) (some (.iload_n 2, 1, 0, 0, .null, [])) none) (cond (Nat.beq pc 0) (some (.iconst 4, 1, 0, 0, .int 4, [])) none))))
/-- BraidHorns$Motion.toHornBefore(JI)J -/
def xI_10 : Nat → Option xEn := fun pc => cond (Nat.ble 12 pc) (cond (Nat.ble 17 pc) (cond (Nat.ble 19 pc) (cond (Nat.ble 20 pc) (cond (Nat.ble 21 pc) (cond (Nat.beq pc 21) (some (.lreturn, 1, 0, 0, .null, [])) none) (cond (Nat.beq pc 20) (some (.land, 1, 0, 0, .null, [])) none)) (cond (Nat.beq pc 19) (some (.lsub, 1, 0, 0, .null, [])) none)) (cond (Nat.ble 18 pc) (cond (Nat.beq pc 18) (some (.lconst 1, 1, 0, 0, .long 1, [])) none) (cond (Nat.beq pc 17) (some (.lshl, 1, 0, 0, .null, [])) none))) (cond (Nat.ble 14 pc) (cond (Nat.ble 15 pc) (cond (Nat.ble 16 pc) (cond (Nat.beq pc 16) (some (.iload_n 3, 1, 0, 0, .null, [])) none) (cond (Nat.beq pc 15) (some (.lconst 1, 1, 0, 0, .long 1, [])) none)) (cond (Nat.beq pc 14) (some (.lor, 1, 0, 0, .null, [])) none)) (cond (Nat.ble 13 pc) (cond (Nat.beq pc 13) (some (.lshl, 1, 0, 0, .null, [])) none) (cond (Nat.beq pc 12) (some (.isub, 1, 0, 0, .null, [])) none)))) (cond (Nat.ble 5 pc) (cond (Nat.ble 8 pc) (cond (Nat.ble 9 pc) (cond (Nat.ble 10 pc) (cond (Nat.beq pc 10) (some (.bipush 6, 2, 0, 0, .int 6, [])) none) (cond (Nat.beq pc 9) (some (.iload_n 3, 1, 0, 0, .null, [])) none)) (cond (Nat.beq pc 8) (some (.lload_n 0, 1, 0, 0, .null, [])) none)) (cond (Nat.ble 7 pc) (cond (Nat.beq pc 7) (some (.lushr, 1, 0, 0, .null, [])) none) (cond (Nat.beq pc 5) (some (.bipush 6, 2, 0, 0, .int 6, [])) none))) (cond (Nat.ble 2 pc) (cond (Nat.ble 3 pc) (cond (Nat.ble 4 pc) (cond (Nat.beq pc 4) (some (.lload_n 0, 1, 0, 0, .null, [])) none) (cond (Nat.beq pc 3) (some (.istore_n 3, 1, 0, 0, .null, [])) none)) (cond (Nat.beq pc 2) (some (.imul, 1, 0, 0, .null, [])) none)) (cond (Nat.ble 1 pc) (cond (Nat.beq pc 1) (some (.iload_n 2, 1, 0, 0, .null, [])) none) (cond (Nat.beq pc 0) (some (.iconst 4, 1, 0, 0, .int 4, [])) none))))
/-- BraidHorns$Motion.allPassed(JI)J -/
def xI_11 : Nat → Option xEn := fun pc => cond (Nat.ble 14 pc) (cond (Nat.ble 20 pc) (cond (Nat.ble 24 pc) (cond (Nat.ble 25 pc) (cond (Nat.beq pc 25) (some (.lreturn, 1, 0, 0, .null, [])) none) (cond (Nat.beq pc 24) (some (.lor, 1, 0, 0, .null, [])) none)) (cond (Nat.ble 21 pc) (cond (Nat.beq pc 21) (some (.invokestatic 31, 3, 10, 2, .null, [283, 284, 54])) none) (cond (Nat.beq pc 20) (some (.iload_n 2, 1, 0, 0, .null, [])) none))) (cond (Nat.ble 16 pc) (cond (Nat.ble 19 pc) (cond (Nat.beq pc 19) (some (.land, 1, 0, 0, .null, [])) none) (cond (Nat.beq pc 16) (some (.ldc2_w 29, 3, 0, 0, .long (75059993789508), [282])) none)) (cond (Nat.ble 15 pc) (cond (Nat.beq pc 15) (some (.lload_n 0, 1, 0, 0, .null, [])) none) (cond (Nat.beq pc 14) (some (.lor, 1, 0, 0, .null, [])) none)))) (cond (Nat.ble 6 pc) (cond (Nat.ble 10 pc) (cond (Nat.ble 11 pc) (cond (Nat.beq pc 11) (some (.invokestatic 25, 3, 9, 2, .null, [388, 389, 54])) none) (cond (Nat.beq pc 10) (some (.iload_n 2, 1, 0, 0, .null, [])) none)) (cond (Nat.ble 9 pc) (cond (Nat.beq pc 9) (some (.land, 1, 0, 0, .null, [])) none) (cond (Nat.beq pc 6) (some (.ldc2_w 21, 3, 0, 0, .long (18764998447377), [278])) none))) (cond (Nat.ble 4 pc) (cond (Nat.ble 5 pc) (cond (Nat.beq pc 5) (some (.lload_n 0, 1, 0, 0, .null, [])) none) (cond (Nat.beq pc 4) (some (.land, 1, 0, 0, .null, [])) none)) (cond (Nat.ble 1 pc) (cond (Nat.beq pc 1) (some (.ldc2_w 23, 3, 0, 0, .long (-93824992236886), [387])) none) (cond (Nat.beq pc 0) (some (.lload_n 0, 1, 0, 0, .null, [])) none))))
/-- BraidHorns$Motion.meetings(JI)J -/
def xI_12 : Nat → Option xEn := fun pc => cond (Nat.ble 9 pc) (cond (Nat.ble 11 pc) (cond (Nat.ble 14 pc) (cond (Nat.ble 15 pc) (cond (Nat.beq pc 15) (some (.lreturn, 1, 0, 0, .null, [])) none) (cond (Nat.beq pc 14) (some (.land, 1, 0, 0, .null, [])) none)) (cond (Nat.beq pc 11) (some (.invokestatic 31, 3, 10, 2, .null, [283, 284, 54])) none)) (cond (Nat.ble 10 pc) (cond (Nat.beq pc 10) (some (.iload_n 2, 1, 0, 0, .null, [])) none) (cond (Nat.beq pc 9) (some (.land, 1, 0, 0, .null, [])) none))) (cond (Nat.ble 4 pc) (cond (Nat.ble 5 pc) (cond (Nat.ble 6 pc) (cond (Nat.beq pc 6) (some (.ldc2_w 29, 3, 0, 0, .long (75059993789508), [282])) none) (cond (Nat.beq pc 5) (some (.lload_n 0, 1, 0, 0, .null, [])) none)) (cond (Nat.beq pc 4) (some (.land, 1, 0, 0, .null, [])) none)) (cond (Nat.ble 1 pc) (cond (Nat.beq pc 1) (some (.ldc2_w 21, 3, 0, 0, .long (18764998447377), [278])) none) (cond (Nat.beq pc 0) (some (.lload_n 0, 1, 0, 0, .null, [])) none)))
/-- BraidHorns$Motion.behindStep(JI)J -/
def xI_13 : Nat → Option xEn := fun pc => cond (Nat.ble 11 pc) (cond (Nat.ble 21 pc) (cond (Nat.ble 23 pc) (cond (Nat.ble 26 pc) (cond (Nat.beq pc 26) (some (.lreturn, 1, 0, 0, .null, [])) none) (cond (Nat.beq pc 23) (some (.invokestatic 43, 3, 11, 2, .null, [384, 385, 54])) none)) (cond (Nat.ble 22 pc) (cond (Nat.beq pc 22) (some (.iload_n 2, 1, 0, 0, .null, [])) none) (cond (Nat.beq pc 21) (some (.lload_n 3, 1, 0, 0, .null, [])) none))) (cond (Nat.ble 15 pc) (cond (Nat.ble 18 pc) (cond (Nat.beq pc 18) (some (.goto 8, 3, 26, 0, .null, [])) none) (cond (Nat.beq pc 15) (some (.ldc2_w 41, 3, 0, 0, .long (-1), [383])) none)) (cond (Nat.ble 12 pc) (cond (Nat.beq pc 12) (some (.ifCond .eq 9, 3, 21, 0, .null, [])) none) (cond (Nat.beq pc 11) (some (.lcmp, 1, 0, 0, .null, [])) none)))) (cond (Nat.ble 5 pc) (cond (Nat.ble 7 pc) (cond (Nat.ble 10 pc) (cond (Nat.beq pc 10) (some (.lconst 0, 1, 0, 0, .long 0, [])) none) (cond (Nat.beq pc 7) (some (.invokestatic 38, 3, 12, 2, .null, [382, 280, 54])) none)) (cond (Nat.ble 6 pc) (cond (Nat.beq pc 6) (some (.iload_n 2, 1, 0, 0, .null, [])) none) (cond (Nat.beq pc 5) (some (.lload_n 3, 1, 0, 0, .null, [])) none))) (cond (Nat.ble 1 pc) (cond (Nat.ble 4 pc) (cond (Nat.beq pc 4) (some (.lstore_n 3, 1, 0, 0, .null, [])) none) (cond (Nat.beq pc 1) (some (.invokestatic 34, 3, 8, 1, .null, [381, 271, 54])) none)) (cond (Nat.beq pc 0) (some (.lload_n 0, 1, 0, 0, .null, [])) none)))
/-- BraidHorns$Motion.firstMeeting(JII)I -/
def xI_14 : Nat → Option xEn := fun pc => cond (Nat.ble 25 pc) (cond (Nat.ble 36 pc) (cond (Nat.ble 42 pc) (cond (Nat.ble 48 pc) (cond (Nat.ble 50 pc) (cond (Nat.beq pc 50) (some (.ireturn, 1, 0, 0, .null, [])) none) (cond (Nat.beq pc 48) (some (.bipush (-6), 2, 0, 0, .int (-6), [])) none)) (cond (Nat.ble 45 pc) (cond (Nat.beq pc 45) (some (.goto (-39), 3, 6, 0, .null, [])) none) (cond (Nat.beq pc 42) (some (.iinc 6 1, 3, 0, 0, .int (1), [])) none))) (cond (Nat.ble 39 pc) (cond (Nat.ble 41 pc) (cond (Nat.beq pc 41) (some (.ireturn, 1, 0, 0, .null, [])) none) (cond (Nat.beq pc 39) (some (.bipush (-6), 2, 0, 0, .int (-6), [])) none)) (cond (Nat.beq pc 36) (some (.ifCond .ne 6, 3, 42, 0, .null, [])) none))) (cond (Nat.ble 31 pc) (cond (Nat.ble 34 pc) (cond (Nat.ble 35 pc) (cond (Nat.beq pc 35) (some (.lcmp, 1, 0, 0, .null, [])) none) (cond (Nat.beq pc 34) (some (.lload_n 0, 1, 0, 0, .null, [])) none)) (cond (Nat.ble 32 pc) (cond (Nat.beq pc 32) (some (.lload 4, 2, 0, 0, .null, [])) none) (cond (Nat.beq pc 31) (some (.ireturn, 1, 0, 0, .null, [])) none))) (cond (Nat.ble 26 pc) (cond (Nat.ble 29 pc) (cond (Nat.beq pc 29) (some (.iload 6, 2, 0, 0, .null, [])) none) (cond (Nat.beq pc 26) (some (.ifCond .ne 6, 3, 32, 0, .null, [])) none)) (cond (Nat.beq pc 25) (some (.lcmp, 1, 0, 0, .null, [])) none)))) (cond (Nat.ble 9 pc) (cond (Nat.ble 15 pc) (cond (Nat.ble 20 pc) (cond (Nat.ble 22 pc) (cond (Nat.beq pc 22) (some (.ldc2_w 41, 3, 0, 0, .long (-1), [383])) none) (cond (Nat.beq pc 20) (some (.lload 4, 2, 0, 0, .null, [])) none)) (cond (Nat.ble 18 pc) (cond (Nat.beq pc 18) (some (.lstore 4, 2, 0, 0, .null, [])) none) (cond (Nat.beq pc 15) (some (.invokestatic 46, 3, 13, 2, .null, [378, 379, 54])) none))) (cond (Nat.ble 12 pc) (cond (Nat.ble 14 pc) (cond (Nat.beq pc 14) (some (.iload_n 2, 1, 0, 0, .null, [])) none) (cond (Nat.beq pc 12) (some (.lload 4, 2, 0, 0, .null, [])) none)) (cond (Nat.beq pc 9) (some (.if_icmp .gt 39, 3, 48, 0, .null, [])) none))) (cond (Nat.ble 4 pc) (cond (Nat.ble 6 pc) (cond (Nat.ble 8 pc) (cond (Nat.beq pc 8) (some (.iload_n 3, 1, 0, 0, .null, [])) none) (cond (Nat.beq pc 6) (some (.iload 6, 2, 0, 0, .null, [])) none)) (cond (Nat.beq pc 4) (some (.istore 6, 2, 0, 0, .null, [])) none)) (cond (Nat.ble 1 pc) (cond (Nat.ble 3 pc) (cond (Nat.beq pc 3) (some (.iconst 1, 1, 0, 0, .int 1, [])) none) (cond (Nat.beq pc 1) (some (.lstore 4, 2, 0, 0, .null, [])) none)) (cond (Nat.beq pc 0) (some (.lload_n 0, 1, 0, 0, .null, [])) none))))
/-- BraidHorns$Motion.meetingContact(JII)I -/
def xI_15 : Nat → Option xEn := fun pc => cond (Nat.ble 38 pc) (cond (Nat.ble 54 pc) (cond (Nat.ble 62 pc) (cond (Nat.ble 66 pc) (cond (Nat.ble 69 pc) (cond (Nat.ble 71 pc) (cond (Nat.beq pc 71) (some (.ireturn, 1, 0, 0, .null, [])) none) (cond (Nat.beq pc 69) (some (.bipush (-6), 2, 0, 0, .int (-6), [])) none)) (cond (Nat.beq pc 66) (some (.goto (-26), 3, 40, 0, .null, [])) none)) (cond (Nat.ble 63 pc) (cond (Nat.beq pc 63) (some (.iinc 8 1, 3, 0, 0, .int (1), [])) none) (cond (Nat.beq pc 62) (some (.ireturn, 1, 0, 0, .null, [])) none))) (cond (Nat.ble 56 pc) (cond (Nat.ble 57 pc) (cond (Nat.ble 60 pc) (cond (Nat.beq pc 60) (some (.iload 8, 2, 0, 0, .null, [])) none) (cond (Nat.beq pc 57) (some (.ifCond .eq 6, 3, 63, 0, .null, [])) none)) (cond (Nat.beq pc 56) (some (.lcmp, 1, 0, 0, .null, [])) none)) (cond (Nat.ble 55 pc) (cond (Nat.beq pc 55) (some (.lconst 0, 1, 0, 0, .long 0, [])) none) (cond (Nat.beq pc 54) (some (.land, 1, 0, 0, .null, [])) none)))) (cond (Nat.ble 48 pc) (cond (Nat.ble 51 pc) (cond (Nat.ble 52 pc) (cond (Nat.ble 53 pc) (cond (Nat.beq pc 53) (some (.lconst 1, 1, 0, 0, .long 1, [])) none) (cond (Nat.beq pc 52) (some (.lushr, 1, 0, 0, .null, [])) none)) (cond (Nat.beq pc 51) (some (.imul, 1, 0, 0, .null, [])) none)) (cond (Nat.ble 49 pc) (cond (Nat.beq pc 49) (some (.iload 8, 2, 0, 0, .null, [])) none) (cond (Nat.beq pc 48) (some (.iconst 4, 1, 0, 0, .int 4, [])) none))) (cond (Nat.ble 42 pc) (cond (Nat.ble 43 pc) (cond (Nat.ble 46 pc) (cond (Nat.beq pc 46) (some (.lload 6, 2, 0, 0, .null, [])) none) (cond (Nat.beq pc 43) (some (.if_icmp .ge 26, 3, 69, 0, .null, [])) none)) (cond (Nat.beq pc 42) (some (.iload_n 2, 1, 0, 0, .null, [])) none)) (cond (Nat.ble 40 pc) (cond (Nat.beq pc 40) (some (.iload 8, 2, 0, 0, .null, [])) none) (cond (Nat.beq pc 38) (some (.istore 8, 2, 0, 0, .null, [])) none))))) (cond (Nat.ble 15 pc) (cond (Nat.ble 28 pc) (cond (Nat.ble 32 pc) (cond (Nat.ble 35 pc) (cond (Nat.ble 37 pc) (cond (Nat.beq pc 37) (some (.iconst 0, 1, 0, 0, .int 0, [])) none) (cond (Nat.beq pc 35) (some (.lstore 6, 2, 0, 0, .null, [])) none)) (cond (Nat.beq pc 32) (some (.invokestatic 38, 3, 12, 2, .null, [382, 280, 54])) none)) (cond (Nat.ble 31 pc) (cond (Nat.beq pc 31) (some (.iload_n 2, 1, 0, 0, .null, [])) none) (cond (Nat.beq pc 28) (some (.invokestatic 34, 3, 8, 1, .null, [381, 271, 54])) none))) (cond (Nat.ble 20 pc) (cond (Nat.ble 23 pc) (cond (Nat.ble 26 pc) (cond (Nat.beq pc 26) (some (.lload 4, 2, 0, 0, .null, [])) none) (cond (Nat.beq pc 23) (some (.goto (-17), 3, 6, 0, .null, [])) none)) (cond (Nat.beq pc 20) (some (.iinc 6 1, 3, 0, 0, .int (1), [])) none)) (cond (Nat.ble 18 pc) (cond (Nat.beq pc 18) (some (.lstore 4, 2, 0, 0, .null, [])) none) (cond (Nat.beq pc 15) (some (.invokestatic 46, 3, 13, 2, .null, [378, 379, 54])) none)))) (cond (Nat.ble 6 pc) (cond (Nat.ble 9 pc) (cond (Nat.ble 12 pc) (cond (Nat.ble 14 pc) (cond (Nat.beq pc 14) (some (.iload_n 2, 1, 0, 0, .null, [])) none) (cond (Nat.beq pc 12) (some (.lload 4, 2, 0, 0, .null, [])) none)) (cond (Nat.beq pc 9) (some (.if_icmp .ge 17, 3, 26, 0, .null, [])) none)) (cond (Nat.ble 8 pc) (cond (Nat.beq pc 8) (some (.iload_n 3, 1, 0, 0, .null, [])) none) (cond (Nat.beq pc 6) (some (.iload 6, 2, 0, 0, .null, [])) none))) (cond (Nat.ble 3 pc) (cond (Nat.ble 4 pc) (cond (Nat.beq pc 4) (some (.istore 6, 2, 0, 0, .null, [])) none) (cond (Nat.beq pc 3) (some (.iconst 1, 1, 0, 0, .int 1, [])) none)) (cond (Nat.ble 1 pc) (cond (Nat.beq pc 1) (some (.lstore 4, 2, 0, 0, .null, [])) none) (cond (Nat.beq pc 0) (some (.lload_n 0, 1, 0, 0, .null, [])) none)))))
/-- BraidHorns$Motion.firstReturn(JI)I -/
def xI_16 : Nat → Option xEn := fun pc => cond (Nat.ble 22 pc) (cond (Nat.ble 32 pc) (cond (Nat.ble 38 pc) (cond (Nat.ble 44 pc) (cond (Nat.ble 46 pc) (cond (Nat.beq pc 46) (some (.ireturn, 1, 0, 0, .null, [])) none) (cond (Nat.beq pc 44) (some (.bipush (-6), 2, 0, 0, .int (-6), [])) none)) (cond (Nat.ble 41 pc) (cond (Nat.beq pc 41) (some (.goto (-36), 3, 5, 0, .null, [])) none) (cond (Nat.beq pc 38) (some (.iinc 5 1, 3, 0, 0, .int (1), [])) none))) (cond (Nat.ble 35 pc) (cond (Nat.ble 37 pc) (cond (Nat.beq pc 37) (some (.ireturn, 1, 0, 0, .null, [])) none) (cond (Nat.beq pc 35) (some (.iload 5, 2, 0, 0, .null, [])) none)) (cond (Nat.beq pc 32) (some (.ifCond .ne 6, 3, 38, 0, .null, [])) none))) (cond (Nat.ble 28 pc) (cond (Nat.ble 30 pc) (cond (Nat.ble 31 pc) (cond (Nat.beq pc 31) (some (.lcmp, 1, 0, 0, .null, [])) none) (cond (Nat.beq pc 30) (some (.lload_n 0, 1, 0, 0, .null, [])) none)) (cond (Nat.ble 29 pc) (cond (Nat.beq pc 29) (some (.lload_n 3, 1, 0, 0, .null, [])) none) (cond (Nat.beq pc 28) (some (.ireturn, 1, 0, 0, .null, [])) none))) (cond (Nat.ble 23 pc) (cond (Nat.ble 26 pc) (cond (Nat.beq pc 26) (some (.bipush (-6), 2, 0, 0, .int (-6), [])) none) (cond (Nat.beq pc 23) (some (.ifCond .ne 6, 3, 29, 0, .null, [])) none)) (cond (Nat.beq pc 22) (some (.lcmp, 1, 0, 0, .null, [])) none)))) (cond (Nat.ble 9 pc) (cond (Nat.ble 14 pc) (cond (Nat.ble 18 pc) (cond (Nat.ble 19 pc) (cond (Nat.beq pc 19) (some (.ldc2_w 41, 3, 0, 0, .long (-1), [383])) none) (cond (Nat.beq pc 18) (some (.lload_n 3, 1, 0, 0, .null, [])) none)) (cond (Nat.ble 17 pc) (cond (Nat.beq pc 17) (some (.lstore_n 3, 1, 0, 0, .null, [])) none) (cond (Nat.beq pc 14) (some (.invokestatic 46, 3, 13, 2, .null, [378, 379, 54])) none))) (cond (Nat.ble 12 pc) (cond (Nat.ble 13 pc) (cond (Nat.beq pc 13) (some (.iload_n 2, 1, 0, 0, .null, [])) none) (cond (Nat.beq pc 12) (some (.lload_n 3, 1, 0, 0, .null, [])) none)) (cond (Nat.beq pc 9) (some (.if_icmp .gt 35, 3, 44, 0, .null, [])) none))) (cond (Nat.ble 3 pc) (cond (Nat.ble 5 pc) (cond (Nat.ble 7 pc) (cond (Nat.beq pc 7) (some (.bipush 100, 2, 0, 0, .int 100, [])) none) (cond (Nat.beq pc 5) (some (.iload 5, 2, 0, 0, .null, [])) none)) (cond (Nat.beq pc 3) (some (.istore 5, 2, 0, 0, .null, [])) none)) (cond (Nat.ble 1 pc) (cond (Nat.ble 2 pc) (cond (Nat.beq pc 2) (some (.iconst 1, 1, 0, 0, .int 1, [])) none) (cond (Nat.beq pc 1) (some (.lstore_n 3, 1, 0, 0, .null, [])) none)) (cond (Nat.beq pc 0) (some (.lload_n 0, 1, 0, 0, .null, [])) none))))
/-- BraidHorns$Motion.fits(JII)Z -/
def xI_17 : Nat → Option xEn := fun pc => cond (Nat.ble 11 pc) (cond (Nat.ble 15 pc) (cond (Nat.ble 19 pc) (cond (Nat.ble 22 pc) (cond (Nat.ble 23 pc) (cond (Nat.beq pc 23) (some (.ireturn, 1, 0, 0, .null, [])) none) (cond (Nat.beq pc 22) (some (.iconst 0, 1, 0, 0, .int 0, [])) none)) (cond (Nat.beq pc 19) (some (.goto 4, 3, 23, 0, .null, [])) none)) (cond (Nat.ble 18 pc) (cond (Nat.beq pc 18) (some (.iconst 1, 1, 0, 0, .int 1, [])) none) (cond (Nat.beq pc 15) (some (.ifCond .ne 7, 3, 22, 0, .null, [])) none))) (cond (Nat.ble 13 pc) (cond (Nat.ble 14 pc) (cond (Nat.beq pc 14) (some (.lcmp, 1, 0, 0, .null, [])) none) (cond (Nat.beq pc 13) (some (.lconst 0, 1, 0, 0, .long 0, [])) none)) (cond (Nat.ble 12 pc) (cond (Nat.beq pc 12) (some (.land, 1, 0, 0, .null, [])) none) (cond (Nat.beq pc 11) (some (.lor, 1, 0, 0, .null, [])) none)))) (cond (Nat.ble 4 pc) (cond (Nat.ble 6 pc) (cond (Nat.ble 7 pc) (cond (Nat.ble 10 pc) (cond (Nat.beq pc 10) (some (.lshl, 1, 0, 0, .null, [])) none) (cond (Nat.beq pc 7) (some (.invokestatic 49, 3, 4, 2, .null, [228, 229, 54])) none)) (cond (Nat.beq pc 6) (some (.iload_n 2, 1, 0, 0, .null, [])) none)) (cond (Nat.ble 5 pc) (cond (Nat.beq pc 5) (some (.iload_n 3, 1, 0, 0, .null, [])) none) (cond (Nat.beq pc 4) (some (.lconst 1, 1, 0, 0, .long 1, [])) none))) (cond (Nat.ble 2 pc) (cond (Nat.ble 3 pc) (cond (Nat.beq pc 3) (some (.lshl, 1, 0, 0, .null, [])) none) (cond (Nat.beq pc 2) (some (.iload_n 3, 1, 0, 0, .null, [])) none)) (cond (Nat.ble 1 pc) (cond (Nat.beq pc 1) (some (.lconst 1, 1, 0, 0, .long 1, [])) none) (cond (Nat.beq pc 0) (some (.lload_n 0, 1, 0, 0, .null, [])) none))))
/-- BraidHorns$Motion.staysFree(JII)Z -/
def xI_18 : Nat → Option xEn := fun pc => cond (Nat.ble 13 pc) (cond (Nat.ble 22 pc) (cond (Nat.ble 26 pc) (cond (Nat.ble 29 pc) (cond (Nat.ble 30 pc) (cond (Nat.beq pc 30) (some (.ireturn, 1, 0, 0, .null, [])) none) (cond (Nat.beq pc 29) (some (.iconst 0, 1, 0, 0, .int 0, [])) none)) (cond (Nat.beq pc 26) (some (.goto 4, 3, 30, 0, .null, [])) none)) (cond (Nat.ble 25 pc) (cond (Nat.beq pc 25) (some (.iconst 1, 1, 0, 0, .int 1, [])) none) (cond (Nat.beq pc 22) (some (.if_icmp .ne 7, 3, 29, 0, .null, [])) none))) (cond (Nat.ble 15 pc) (cond (Nat.ble 17 pc) (cond (Nat.ble 20 pc) (cond (Nat.beq pc 20) (some (.bipush (-6), 2, 0, 0, .int (-6), [])) none) (cond (Nat.beq pc 17) (some (.invokestatic 57, 3, 14, 3, .null, [413, 376, 54])) none)) (cond (Nat.beq pc 15) (some (.bipush 100, 2, 0, 0, .int 100, [])) none)) (cond (Nat.ble 14 pc) (cond (Nat.beq pc 14) (some (.iload_n 2, 1, 0, 0, .null, [])) none) (cond (Nat.beq pc 13) (some (.lor, 1, 0, 0, .null, [])) none)))) (cond (Nat.ble 6 pc) (cond (Nat.ble 10 pc) (cond (Nat.ble 11 pc) (cond (Nat.ble 12 pc) (cond (Nat.beq pc 12) (some (.lshl, 1, 0, 0, .null, [])) none) (cond (Nat.beq pc 11) (some (.iload_n 3, 1, 0, 0, .null, [])) none)) (cond (Nat.beq pc 10) (some (.lconst 1, 1, 0, 0, .long 1, [])) none)) (cond (Nat.ble 9 pc) (cond (Nat.beq pc 9) (some (.lload_n 0, 1, 0, 0, .null, [])) none) (cond (Nat.beq pc 6) (some (.ifCond .eq 23, 3, 29, 0, .null, [])) none))) (cond (Nat.ble 2 pc) (cond (Nat.ble 3 pc) (cond (Nat.beq pc 3) (some (.invokestatic 53, 3, 17, 3, .null, [412, 226, 54])) none) (cond (Nat.beq pc 2) (some (.iload_n 3, 1, 0, 0, .null, [])) none)) (cond (Nat.ble 1 pc) (cond (Nat.beq pc 1) (some (.iload_n 2, 1, 0, 0, .null, [])) none) (cond (Nat.beq pc 0) (some (.lload_n 0, 1, 0, 0, .null, [])) none))))
/-- BraidHorns$Pad.<init>()V -/
def xI_19 : Nat → Option xEn := fun pc => cond (Nat.ble 9 pc) (cond (Nat.ble 13 pc) (cond (Nat.ble 14 pc) (cond (Nat.ble 17 pc) (cond (Nat.beq pc 17) (some (.return_, 1, 0, 0, .null, [])) none) (cond (Nat.beq pc 14) (some (.putfield 15, 3, 1, 1, .null, [142])) none)) (cond (Nat.beq pc 13) (some (.iconst 0, 1, 0, 0, .int 0, [])) none)) (cond (Nat.ble 12 pc) (cond (Nat.beq pc 12) (some (.aload_n 0, 1, 0, 0, .null, [])) none) (cond (Nat.beq pc 9) (some (.putfield 9, 3, 1, 0, .null, [141])) none))) (cond (Nat.ble 4 pc) (cond (Nat.ble 5 pc) (cond (Nat.ble 7 pc) (cond (Nat.beq pc 7) (some (.newarray .char, 2, 2, 0, .null, [150])) none) (cond (Nat.beq pc 5) (some (.bipush 80, 2, 0, 0, .int 80, [])) none)) (cond (Nat.beq pc 4) (some (.aload_n 0, 1, 0, 0, .null, [])) none)) (cond (Nat.ble 1 pc) (cond (Nat.beq pc 1) (some (.invokespecial 3, 3, 1000, 0, .null, [140, 63, 64])) none) (cond (Nat.beq pc 0) (some (.aload_n 0, 1, 0, 0, .null, [])) none)))
/-- BraidHorns$Pad.characterCount(J)I -/
def xI_20 : Nat → Option xEn := fun pc => cond (Nat.ble 27 pc) (cond (Nat.ble 44 pc) (cond (Nat.ble 49 pc) (cond (Nat.ble 53 pc) (cond (Nat.ble 56 pc) (cond (Nat.ble 58 pc) (cond (Nat.beq pc 58) (some (.ireturn, 1, 0, 0, .null, [])) none) (cond (Nat.beq pc 56) (some (.iload 4, 2, 0, 0, .null, [])) none)) (cond (Nat.beq pc 53) (some (.goto (-48), 3, 5, 0, .null, [])) none)) (cond (Nat.ble 50 pc) (cond (Nat.beq pc 50) (some (.iinc 4 1, 3, 0, 0, .int (1), [])) none) (cond (Nat.beq pc 49) (some (.lstore_n 2, 1, 0, 0, .null, [])) none))) (cond (Nat.ble 46 pc) (cond (Nat.ble 48 pc) (cond (Nat.beq pc 48) (some (.lushr, 1, 0, 0, .null, [])) none) (cond (Nat.beq pc 46) (some (.bipush 8, 2, 0, 0, .int 8, [])) none)) (cond (Nat.ble 45 pc) (cond (Nat.beq pc 45) (some (.lload_n 2, 1, 0, 0, .null, [])) none) (cond (Nat.beq pc 44) (some (.ireturn, 1, 0, 0, .null, [])) none)))) (cond (Nat.ble 36 pc) (cond (Nat.ble 40 pc) (cond (Nat.ble 43 pc) (cond (Nat.beq pc 43) (some (.iconst 0, 1, 0, 0, .int 0, [])) none) (cond (Nat.beq pc 40) (some (.ifCond .le 5, 3, 45, 0, .null, [])) none)) (cond (Nat.ble 39 pc) (cond (Nat.beq pc 39) (some (.lcmp, 1, 0, 0, .null, [])) none) (cond (Nat.beq pc 36) (some (.ldc2_w 27, 3, 0, 0, .long (126), [443])) none))) (cond (Nat.ble 31 pc) (cond (Nat.ble 34 pc) (cond (Nat.beq pc 34) (some (.lload 5, 2, 0, 0, .null, [])) none) (cond (Nat.beq pc 31) (some (.ifCond .lt 12, 3, 43, 0, .null, [])) none)) (cond (Nat.ble 30 pc) (cond (Nat.beq pc 30) (some (.lcmp, 1, 0, 0, .null, [])) none) (cond (Nat.beq pc 27) (some (.ldc2_w 25, 3, 0, 0, .long (33), [442])) none))))) (cond (Nat.ble 11 pc) (cond (Nat.ble 19 pc) (cond (Nat.ble 23 pc) (cond (Nat.ble 25 pc) (cond (Nat.beq pc 25) (some (.lload 5, 2, 0, 0, .null, [])) none) (cond (Nat.beq pc 23) (some (.lstore 5, 2, 0, 0, .null, [])) none)) (cond (Nat.ble 22 pc) (cond (Nat.beq pc 22) (some (.land, 1, 0, 0, .null, [])) none) (cond (Nat.beq pc 19) (some (.ldc2_w 23, 3, 0, 0, .long (255), [441])) none))) (cond (Nat.ble 15 pc) (cond (Nat.ble 18 pc) (cond (Nat.beq pc 18) (some (.lload_n 2, 1, 0, 0, .null, [])) none) (cond (Nat.beq pc 15) (some (.if_icmp .ge 41, 3, 56, 0, .null, [])) none)) (cond (Nat.ble 13 pc) (cond (Nat.beq pc 13) (some (.bipush 8, 2, 0, 0, .int 8, [])) none) (cond (Nat.beq pc 11) (some (.iload 4, 2, 0, 0, .null, [])) none)))) (cond (Nat.ble 5 pc) (cond (Nat.ble 7 pc) (cond (Nat.ble 8 pc) (cond (Nat.beq pc 8) (some (.ifCond .eq 48, 3, 56, 0, .null, [])) none) (cond (Nat.beq pc 7) (some (.lcmp, 1, 0, 0, .null, [])) none)) (cond (Nat.ble 6 pc) (cond (Nat.beq pc 6) (some (.lconst 0, 1, 0, 0, .long 0, [])) none) (cond (Nat.beq pc 5) (some (.lload_n 2, 1, 0, 0, .null, [])) none))) (cond (Nat.ble 2 pc) (cond (Nat.ble 3 pc) (cond (Nat.beq pc 3) (some (.istore 4, 2, 0, 0, .null, [])) none) (cond (Nat.beq pc 2) (some (.iconst 0, 1, 0, 0, .int 0, [])) none)) (cond (Nat.ble 1 pc) (cond (Nat.beq pc 1) (some (.lstore_n 2, 1, 0, 0, .null, [])) none) (cond (Nat.beq pc 0) (some (.lload_n 0, 1, 0, 0, .null, [])) none)))))
/-- BraidHorns$Pad.append(J)I -/
def xI_21 : Nat → Option xEn := fun pc => cond (Nat.ble 40 pc) (cond (Nat.ble 57 pc) (cond (Nat.ble 65 pc) (cond (Nat.ble 74 pc) (cond (Nat.ble 75 pc) (cond (Nat.ble 78 pc) (cond (Nat.beq pc 78) (some (.ireturn, 1, 0, 0, .null, [])) none) (cond (Nat.beq pc 75) (some (.getfield 15, 3, 1, 1, .null, [142])) none)) (cond (Nat.beq pc 74) (some (.aload_n 0, 1, 0, 0, .null, [])) none)) (cond (Nat.ble 68 pc) (cond (Nat.ble 71 pc) (cond (Nat.beq pc 71) (some (.goto (-40), 3, 31, 0, .null, [])) none) (cond (Nat.beq pc 68) (some (.iinc 4 (-1), 3, 0, 0, .int (-1), [])) none)) (cond (Nat.beq pc 65) (some (.putfield 15, 3, 1, 1, .null, [142])) none))) (cond (Nat.ble 60 pc) (cond (Nat.ble 63 pc) (cond (Nat.ble 64 pc) (cond (Nat.beq pc 64) (some (.iadd, 1, 0, 0, .null, [])) none) (cond (Nat.beq pc 63) (some (.iconst 1, 1, 0, 0, .int 1, [])) none)) (cond (Nat.beq pc 60) (some (.getfield 15, 3, 1, 1, .null, [142])) none)) (cond (Nat.ble 58 pc) (cond (Nat.ble 59 pc) (cond (Nat.beq pc 59) (some (.dup, 1, 0, 0, .null, [])) none) (cond (Nat.beq pc 58) (some (.aload_n 0, 1, 0, 0, .null, [])) none)) (cond (Nat.beq pc 57) (some (.castore, 1, 0, 0, .null, [])) none)))) (cond (Nat.ble 49 pc) (cond (Nat.ble 54 pc) (cond (Nat.ble 55 pc) (cond (Nat.ble 56 pc) (cond (Nat.beq pc 56) (some (.i2c, 1, 0, 0, .null, [])) none) (cond (Nat.beq pc 55) (some (.l2i, 1, 0, 0, .null, [])) none)) (cond (Nat.beq pc 54) (some (.land, 1, 0, 0, .null, [])) none)) (cond (Nat.ble 50 pc) (cond (Nat.ble 51 pc) (cond (Nat.beq pc 51) (some (.ldc2_w 23, 3, 0, 0, .long (255), [441])) none) (cond (Nat.beq pc 50) (some (.lushr, 1, 0, 0, .null, [])) none)) (cond (Nat.beq pc 49) (some (.imul, 1, 0, 0, .null, [])) none))) (cond (Nat.ble 44 pc) (cond (Nat.ble 45 pc) (cond (Nat.ble 47 pc) (cond (Nat.beq pc 47) (some (.iload 4, 2, 0, 0, .null, [])) none) (cond (Nat.beq pc 45) (some (.bipush 8, 2, 0, 0, .int 8, [])) none)) (cond (Nat.beq pc 44) (some (.lload_n 1, 1, 0, 0, .null, [])) none)) (cond (Nat.ble 41 pc) (cond (Nat.beq pc 41) (some (.getfield 15, 3, 1, 1, .null, [142])) none) (cond (Nat.beq pc 40) (some (.aload_n 0, 1, 0, 0, .null, [])) none))))) (cond (Nat.ble 18 pc) (cond (Nat.ble 28 pc) (cond (Nat.ble 33 pc) (cond (Nat.ble 36 pc) (cond (Nat.ble 37 pc) (cond (Nat.beq pc 37) (some (.getfield 9, 3, 1, 0, .null, [141])) none) (cond (Nat.beq pc 36) (some (.aload_n 0, 1, 0, 0, .null, [])) none)) (cond (Nat.beq pc 33) (some (.ifCond .lt 41, 3, 74, 0, .null, [])) none)) (cond (Nat.ble 29 pc) (cond (Nat.ble 31 pc) (cond (Nat.beq pc 31) (some (.iload 4, 2, 0, 0, .null, [])) none) (cond (Nat.beq pc 29) (some (.istore 4, 2, 0, 0, .null, [])) none)) (cond (Nat.beq pc 28) (some (.isub, 1, 0, 0, .null, [])) none))) (cond (Nat.ble 25 pc) (cond (Nat.ble 26 pc) (cond (Nat.ble 27 pc) (cond (Nat.beq pc 27) (some (.iconst 1, 1, 0, 0, .int 1, [])) none) (cond (Nat.beq pc 26) (some (.iload_n 3, 1, 0, 0, .null, [])) none)) (cond (Nat.beq pc 25) (some (.ireturn, 1, 0, 0, .null, [])) none)) (cond (Nat.ble 20 pc) (cond (Nat.ble 23 pc) (cond (Nat.beq pc 23) (some (.bipush (-4), 2, 0, 0, .int (-4), [])) none) (cond (Nat.beq pc 20) (some (.if_icmp .le 6, 3, 26, 0, .null, [])) none)) (cond (Nat.beq pc 18) (some (.bipush 80, 2, 0, 0, .int 80, [])) none)))) (cond (Nat.ble 9 pc) (cond (Nat.ble 13 pc) (cond (Nat.ble 16 pc) (cond (Nat.ble 17 pc) (cond (Nat.beq pc 17) (some (.iadd, 1, 0, 0, .null, [])) none) (cond (Nat.beq pc 16) (some (.iload_n 3, 1, 0, 0, .null, [])) none)) (cond (Nat.beq pc 13) (some (.getfield 15, 3, 1, 1, .null, [142])) none)) (cond (Nat.ble 11 pc) (cond (Nat.ble 12 pc) (cond (Nat.beq pc 12) (some (.aload_n 0, 1, 0, 0, .null, [])) none) (cond (Nat.beq pc 11) (some (.ireturn, 1, 0, 0, .null, [])) none)) (cond (Nat.beq pc 9) (some (.bipush (-2), 2, 0, 0, .int (-2), [])) none))) (cond (Nat.ble 4 pc) (cond (Nat.ble 5 pc) (cond (Nat.ble 6 pc) (cond (Nat.beq pc 6) (some (.ifCond .ne 6, 3, 12, 0, .null, [])) none) (cond (Nat.beq pc 5) (some (.iload_n 3, 1, 0, 0, .null, [])) none)) (cond (Nat.beq pc 4) (some (.istore_n 3, 1, 0, 0, .null, [])) none)) (cond (Nat.ble 1 pc) (cond (Nat.beq pc 1) (some (.invokestatic 19, 3, 20, 1, .null, [438, 439, 51])) none) (cond (Nat.beq pc 0) (some (.lload_n 1, 1, 0, 0, .null, [])) none)))))
/-- BraidHorns$Pad.empty()I -/
def xI_22 : Nat → Option xEn := fun pc => cond (Nat.ble 6 pc) (cond (Nat.ble 10 pc) (cond (Nat.ble 11 pc) (cond (Nat.beq pc 11) (some (.ireturn, 1, 0, 0, .null, [])) none) (cond (Nat.beq pc 10) (some (.iload_n 1, 1, 0, 0, .null, [])) none)) (cond (Nat.ble 7 pc) (cond (Nat.beq pc 7) (some (.putfield 15, 3, 1, 1, .null, [142])) none) (cond (Nat.beq pc 6) (some (.iconst 0, 1, 0, 0, .int 0, [])) none))) (cond (Nat.ble 4 pc) (cond (Nat.ble 5 pc) (cond (Nat.beq pc 5) (some (.aload_n 0, 1, 0, 0, .null, [])) none) (cond (Nat.beq pc 4) (some (.istore_n 1, 1, 0, 0, .null, [])) none)) (cond (Nat.ble 1 pc) (cond (Nat.beq pc 1) (some (.getfield 15, 3, 1, 1, .null, [142])) none) (cond (Nat.beq pc 0) (some (.aload_n 0, 1, 0, 0, .null, [])) none)))
/-- BraidHorns$Pad.isDigit(C)Z -/
def xI_23 : Nat → Option xEn := fun pc => cond (Nat.ble 9 pc) (cond (Nat.ble 13 pc) (cond (Nat.ble 16 pc) (cond (Nat.ble 17 pc) (cond (Nat.beq pc 17) (some (.ireturn, 1, 0, 0, .null, [])) none) (cond (Nat.beq pc 16) (some (.iconst 0, 1, 0, 0, .int 0, [])) none)) (cond (Nat.beq pc 13) (some (.goto 4, 3, 17, 0, .null, [])) none)) (cond (Nat.ble 12 pc) (cond (Nat.beq pc 12) (some (.iconst 1, 1, 0, 0, .int 1, [])) none) (cond (Nat.beq pc 9) (some (.if_icmp .gt 7, 3, 16, 0, .null, [])) none))) (cond (Nat.ble 3 pc) (cond (Nat.ble 6 pc) (cond (Nat.ble 7 pc) (cond (Nat.beq pc 7) (some (.bipush 57, 2, 0, 0, .int 57, [])) none) (cond (Nat.beq pc 6) (some (.iload_n 0, 1, 0, 0, .null, [])) none)) (cond (Nat.beq pc 3) (some (.if_icmp .lt 13, 3, 16, 0, .null, [])) none)) (cond (Nat.ble 1 pc) (cond (Nat.beq pc 1) (some (.bipush 48, 2, 0, 0, .int 48, [])) none) (cond (Nat.beq pc 0) (some (.iload_n 0, 1, 0, 0, .null, [])) none)))
/-- BraidHorns$Pad.dueBehindLetter(C)I -/
def xI_24 : Nat → Option xEn := fun pc => cond (Nat.ble 63 pc) (cond (Nat.ble 66 pc) (cond (Nat.ble 67 pc) (cond (Nat.ble 68 pc) (cond (Nat.beq pc 68) (some (.ireturn, 1, 0, 0, .null, [])) none) (cond (Nat.beq pc 67) (some (.iconst (-1), 1, 0, 0, .int (-1), [])) none)) (cond (Nat.beq pc 66) (some (.ireturn, 1, 0, 0, .null, [])) none)) (cond (Nat.ble 64 pc) (cond (Nat.beq pc 64) (some (.bipush 6, 2, 0, 0, .int 6, [])) none) (cond (Nat.beq pc 63) (some (.ireturn, 1, 0, 0, .null, [])) none))) (cond (Nat.ble 60 pc) (cond (Nat.ble 61 pc) (cond (Nat.ble 62 pc) (cond (Nat.beq pc 62) (some (.iconst 4, 1, 0, 0, .int 4, [])) none) (cond (Nat.beq pc 61) (some (.ireturn, 1, 0, 0, .null, [])) none)) (cond (Nat.beq pc 60) (some (.iconst 1, 1, 0, 0, .int 1, [])) none)) (cond (Nat.ble 1 pc) (cond (Nat.beq pc 1) (some (.lookupswitch 66 #[(98, 63), (99, 59), (102, 63), (107, 63), (114, 61), (120, 63)], 59, 0, 0, .null, [])) none) (cond (Nat.beq pc 0) (some (.iload_n 0, 1, 0, 0, .null, [])) none)))
/-- BraidHorns$Pad.dueBehind(IC)I -/
def xI_25 : Nat → Option xEn := fun pc => cond (Nat.ble 106 pc) (cond (Nat.ble 140 pc) (cond (Nat.ble 158 pc) (cond (Nat.ble 163 pc) (cond (Nat.ble 167 pc) (cond (Nat.ble 170 pc) (cond (Nat.ble 171 pc) (cond (Nat.beq pc 171) (some (.ireturn, 1, 0, 0, .null, [])) none) (cond (Nat.beq pc 170) (some (.iconst (-1), 1, 0, 0, .int (-1), [])) none)) (cond (Nat.beq pc 167) (some (.goto 4, 3, 171, 0, .null, [])) none)) (cond (Nat.ble 166 pc) (cond (Nat.beq pc 166) (some (.iconst 0, 1, 0, 0, .int 0, [])) none) (cond (Nat.beq pc 163) (some (.if_icmp .ne 7, 3, 170, 0, .null, [])) none))) (cond (Nat.ble 160 pc) (cond (Nat.ble 161 pc) (cond (Nat.beq pc 161) (some (.bipush 59, 2, 0, 0, .int 59, [])) none) (cond (Nat.beq pc 160) (some (.iload_n 1, 1, 0, 0, .null, [])) none)) (cond (Nat.ble 159 pc) (cond (Nat.beq pc 159) (some (.ireturn, 1, 0, 0, .null, [])) none) (cond (Nat.beq pc 158) (some (.iconst (-1), 1, 0, 0, .int (-1), [])) none)))) (cond (Nat.ble 148 pc) (cond (Nat.ble 150 pc) (cond (Nat.ble 153 pc) (cond (Nat.ble 155 pc) (cond (Nat.beq pc 155) (some (.goto 4, 3, 159, 0, .null, [])) none) (cond (Nat.beq pc 153) (some (.bipush 7, 2, 0, 0, .int 7, [])) none)) (cond (Nat.beq pc 150) (some (.ifCond .eq 8, 3, 158, 0, .null, [])) none)) (cond (Nat.ble 149 pc) (cond (Nat.beq pc 149) (some (.iload_n 2, 1, 0, 0, .null, [])) none) (cond (Nat.beq pc 148) (some (.ireturn, 1, 0, 0, .null, [])) none))) (cond (Nat.ble 144 pc) (cond (Nat.ble 147 pc) (cond (Nat.beq pc 147) (some (.iconst (-1), 1, 0, 0, .int (-1), [])) none) (cond (Nat.beq pc 144) (some (.goto 4, 3, 148, 0, .null, [])) none)) (cond (Nat.ble 143 pc) (cond (Nat.beq pc 143) (some (.iconst 0, 1, 0, 0, .int 0, [])) none) (cond (Nat.beq pc 140) (some (.if_icmp .ne 7, 3, 147, 0, .null, [])) none))))) (cond (Nat.ble 123 pc) (cond (Nat.ble 129 pc) (cond (Nat.ble 134 pc) (cond (Nat.ble 137 pc) (cond (Nat.ble 138 pc) (cond (Nat.beq pc 138) (some (.bipush 59, 2, 0, 0, .int 59, [])) none) (cond (Nat.beq pc 137) (some (.iload_n 1, 1, 0, 0, .null, [])) none)) (cond (Nat.beq pc 134) (some (.goto 14, 3, 148, 0, .null, [])) none)) (cond (Nat.ble 132 pc) (cond (Nat.beq pc 132) (some (.bipush 7, 2, 0, 0, .int 7, [])) none) (cond (Nat.beq pc 129) (some (.ifCond .eq 8, 3, 137, 0, .null, [])) none))) (cond (Nat.ble 127 pc) (cond (Nat.ble 128 pc) (cond (Nat.beq pc 128) (some (.iload_n 2, 1, 0, 0, .null, [])) none) (cond (Nat.beq pc 127) (some (.ireturn, 1, 0, 0, .null, [])) none)) (cond (Nat.ble 126 pc) (cond (Nat.beq pc 126) (some (.iconst 5, 1, 0, 0, .int 5, [])) none) (cond (Nat.beq pc 123) (some (.goto 4, 3, 127, 0, .null, [])) none)))) (cond (Nat.ble 112 pc) (cond (Nat.ble 116 pc) (cond (Nat.ble 118 pc) (cond (Nat.ble 121 pc) (cond (Nat.beq pc 121) (some (.bipush 7, 2, 0, 0, .int 7, [])) none) (cond (Nat.beq pc 118) (some (.if_icmp .ne 8, 3, 126, 0, .null, [])) none)) (cond (Nat.beq pc 116) (some (.bipush 48, 2, 0, 0, .int 48, [])) none)) (cond (Nat.ble 115 pc) (cond (Nat.beq pc 115) (some (.iload_n 1, 1, 0, 0, .null, [])) none) (cond (Nat.beq pc 112) (some (.goto 15, 3, 127, 0, .null, [])) none))) (cond (Nat.ble 108 pc) (cond (Nat.ble 111 pc) (cond (Nat.beq pc 111) (some (.iconst (-1), 1, 0, 0, .int (-1), [])) none) (cond (Nat.beq pc 108) (some (.ifCond .ne 7, 3, 115, 0, .null, [])) none)) (cond (Nat.ble 107 pc) (cond (Nat.beq pc 107) (some (.iload_n 2, 1, 0, 0, .null, [])) none) (cond (Nat.beq pc 106) (some (.ireturn, 1, 0, 0, .null, [])) none)))))) (cond (Nat.ble 72 pc) (cond (Nat.ble 89 pc) (cond (Nat.ble 95 pc) (cond (Nat.ble 100 pc) (cond (Nat.ble 102 pc) (cond (Nat.ble 105 pc) (cond (Nat.beq pc 105) (some (.iconst (-1), 1, 0, 0, .int (-1), [])) none) (cond (Nat.beq pc 102) (some (.goto 4, 3, 106, 0, .null, [])) none)) (cond (Nat.beq pc 100) (some (.bipush 6, 2, 0, 0, .int 6, [])) none)) (cond (Nat.ble 97 pc) (cond (Nat.beq pc 97) (some (.if_icmp .ne 8, 3, 105, 0, .null, [])) none) (cond (Nat.beq pc 95) (some (.bipush 46, 2, 0, 0, .int 46, [])) none))) (cond (Nat.ble 93 pc) (cond (Nat.ble 94 pc) (cond (Nat.beq pc 94) (some (.iload_n 1, 1, 0, 0, .null, [])) none) (cond (Nat.beq pc 93) (some (.ireturn, 1, 0, 0, .null, [])) none)) (cond (Nat.ble 92 pc) (cond (Nat.beq pc 92) (some (.iconst (-1), 1, 0, 0, .int (-1), [])) none) (cond (Nat.beq pc 89) (some (.goto 4, 3, 93, 0, .null, [])) none)))) (cond (Nat.ble 78 pc) (cond (Nat.ble 82 pc) (cond (Nat.ble 84 pc) (cond (Nat.ble 87 pc) (cond (Nat.beq pc 87) (some (.bipush 6, 2, 0, 0, .int 6, [])) none) (cond (Nat.beq pc 84) (some (.if_icmp .ne 8, 3, 92, 0, .null, [])) none)) (cond (Nat.beq pc 82) (some (.bipush 46, 2, 0, 0, .int 46, [])) none)) (cond (Nat.ble 81 pc) (cond (Nat.beq pc 81) (some (.iload_n 1, 1, 0, 0, .null, [])) none) (cond (Nat.beq pc 78) (some (.goto 15, 3, 93, 0, .null, [])) none))) (cond (Nat.ble 74 pc) (cond (Nat.ble 77 pc) (cond (Nat.beq pc 77) (some (.iconst 3, 1, 0, 0, .int 3, [])) none) (cond (Nat.beq pc 74) (some (.ifCond .eq 7, 3, 81, 0, .null, [])) none)) (cond (Nat.ble 73 pc) (cond (Nat.beq pc 73) (some (.iload_n 2, 1, 0, 0, .null, [])) none) (cond (Nat.beq pc 72) (some (.ireturn, 1, 0, 0, .null, [])) none))))) (cond (Nat.ble 54 pc) (cond (Nat.ble 62 pc) (cond (Nat.ble 67 pc) (cond (Nat.ble 68 pc) (cond (Nat.ble 71 pc) (cond (Nat.beq pc 71) (some (.iconst 2, 1, 0, 0, .int 2, [])) none) (cond (Nat.beq pc 68) (some (.goto 4, 3, 72, 0, .null, [])) none)) (cond (Nat.beq pc 67) (some (.iconst 3, 1, 0, 0, .int 3, [])) none)) (cond (Nat.ble 64 pc) (cond (Nat.beq pc 64) (some (.if_icmp .ne 7, 3, 71, 0, .null, [])) none) (cond (Nat.beq pc 62) (some (.bipush 48, 2, 0, 0, .int 48, [])) none))) (cond (Nat.ble 58 pc) (cond (Nat.ble 61 pc) (cond (Nat.beq pc 61) (some (.iload_n 1, 1, 0, 0, .null, [])) none) (cond (Nat.beq pc 58) (some (.goto 14, 3, 72, 0, .null, [])) none)) (cond (Nat.ble 57 pc) (cond (Nat.beq pc 57) (some (.iconst (-1), 1, 0, 0, .int (-1), [])) none) (cond (Nat.beq pc 54) (some (.ifCond .ne 7, 3, 61, 0, .null, [])) none)))) (cond (Nat.ble 6 pc) (cond (Nat.ble 49 pc) (cond (Nat.ble 52 pc) (cond (Nat.ble 53 pc) (cond (Nat.beq pc 53) (some (.iload_n 2, 1, 0, 0, .null, [])) none) (cond (Nat.beq pc 52) (some (.ireturn, 1, 0, 0, .null, [])) none)) (cond (Nat.beq pc 49) (some (.invokestatic 37, 3, 24, 1, .null, [466, 467, 51])) none)) (cond (Nat.ble 48 pc) (cond (Nat.beq pc 48) (some (.iload_n 1, 1, 0, 0, .null, [])) none) (cond (Nat.beq pc 6) (some (.tableswitch 154 0 6 #[42, 47, 67, 88, 101, 122, 143], 42, 0, 0, .null, [])) none))) (cond (Nat.ble 4 pc) (cond (Nat.ble 5 pc) (cond (Nat.beq pc 5) (some (.iload_n 0, 1, 0, 0, .null, [])) none) (cond (Nat.beq pc 4) (some (.istore_n 2, 1, 0, 0, .null, [])) none)) (cond (Nat.ble 1 pc) (cond (Nat.beq pc 1) (some (.invokestatic 33, 3, 23, 1, .null, [463, 464, 51])) none) (cond (Nat.beq pc 0) (some (.iload_n 1, 1, 0, 0, .null, [])) none))))))
/-- BraidHorns$Pad.faultIndex()I -/
def xI_26 : Nat → Option xEn := fun pc => cond (Nat.ble 24 pc) (cond (Nat.ble 39 pc) (cond (Nat.ble 47 pc) (cond (Nat.ble 52 pc) (cond (Nat.ble 53 pc) (cond (Nat.ble 56 pc) (cond (Nat.beq pc 56) (some (.ireturn, 1, 0, 0, .null, [])) none) (cond (Nat.beq pc 53) (some (.getfield 15, 3, 1, 1, .null, [142])) none)) (cond (Nat.beq pc 52) (some (.aload_n 0, 1, 0, 0, .null, [])) none)) (cond (Nat.ble 49 pc) (cond (Nat.beq pc 49) (some (.goto 7, 3, 56, 0, .null, [])) none) (cond (Nat.beq pc 47) (some (.bipush (-6), 2, 0, 0, .int (-6), [])) none))) (cond (Nat.ble 43 pc) (cond (Nat.ble 44 pc) (cond (Nat.beq pc 44) (some (.if_icmp .ne 8, 3, 52, 0, .null, [])) none) (cond (Nat.beq pc 43) (some (.iconst 5, 1, 0, 0, .int 5, [])) none)) (cond (Nat.ble 42 pc) (cond (Nat.beq pc 42) (some (.iload_n 1, 1, 0, 0, .null, [])) none) (cond (Nat.beq pc 39) (some (.if_icmp .eq 8, 3, 47, 0, .null, [])) none)))) (cond (Nat.ble 30 pc) (cond (Nat.ble 36 pc) (cond (Nat.ble 37 pc) (cond (Nat.beq pc 37) (some (.bipush 7, 2, 0, 0, .int 7, [])) none) (cond (Nat.beq pc 36) (some (.iload_n 1, 1, 0, 0, .null, [])) none)) (cond (Nat.ble 33 pc) (cond (Nat.beq pc 33) (some (.goto (-29), 3, 4, 0, .null, [])) none) (cond (Nat.beq pc 30) (some (.iinc 2 1, 3, 0, 0, .int (1), [])) none))) (cond (Nat.ble 28 pc) (cond (Nat.ble 29 pc) (cond (Nat.beq pc 29) (some (.ireturn, 1, 0, 0, .null, [])) none) (cond (Nat.beq pc 28) (some (.iload_n 2, 1, 0, 0, .null, [])) none)) (cond (Nat.ble 25 pc) (cond (Nat.beq pc 25) (some (.if_icmp .ne 5, 3, 30, 0, .null, [])) none) (cond (Nat.beq pc 24) (some (.iconst (-1), 1, 0, 0, .int (-1), [])) none))))) (cond (Nat.ble 12 pc) (cond (Nat.ble 18 pc) (cond (Nat.ble 22 pc) (cond (Nat.ble 23 pc) (cond (Nat.beq pc 23) (some (.iload_n 1, 1, 0, 0, .null, [])) none) (cond (Nat.beq pc 22) (some (.istore_n 1, 1, 0, 0, .null, [])) none)) (cond (Nat.ble 19 pc) (cond (Nat.beq pc 19) (some (.invokestatic 29, 3, 25, 2, .null, [460, 461, 51])) none) (cond (Nat.beq pc 18) (some (.caload, 1, 0, 0, .null, [])) none))) (cond (Nat.ble 14 pc) (cond (Nat.ble 17 pc) (cond (Nat.beq pc 17) (some (.iload_n 2, 1, 0, 0, .null, [])) none) (cond (Nat.beq pc 14) (some (.getfield 9, 3, 1, 0, .null, [141])) none)) (cond (Nat.ble 13 pc) (cond (Nat.beq pc 13) (some (.aload_n 0, 1, 0, 0, .null, [])) none) (cond (Nat.beq pc 12) (some (.iload_n 1, 1, 0, 0, .null, [])) none)))) (cond (Nat.ble 4 pc) (cond (Nat.ble 6 pc) (cond (Nat.ble 9 pc) (cond (Nat.beq pc 9) (some (.if_icmp .ge 27, 3, 36, 0, .null, [])) none) (cond (Nat.beq pc 6) (some (.getfield 15, 3, 1, 1, .null, [142])) none)) (cond (Nat.ble 5 pc) (cond (Nat.beq pc 5) (some (.aload_n 0, 1, 0, 0, .null, [])) none) (cond (Nat.beq pc 4) (some (.iload_n 2, 1, 0, 0, .null, [])) none))) (cond (Nat.ble 2 pc) (cond (Nat.ble 3 pc) (cond (Nat.beq pc 3) (some (.istore_n 2, 1, 0, 0, .null, [])) none) (cond (Nat.beq pc 2) (some (.iconst 0, 1, 0, 0, .int 0, [])) none)) (cond (Nat.ble 1 pc) (cond (Nat.beq pc 1) (some (.istore_n 1, 1, 0, 0, .null, [])) none) (cond (Nat.beq pc 0) (some (.iconst 0, 1, 0, 0, .int 0, [])) none)))))
/-- BraidHorns$Pad.signAt(I)C -/
def xI_27 : Nat → Option xEn := fun pc => cond (Nat.ble 12 pc) (cond (Nat.ble 17 pc) (cond (Nat.ble 21 pc) (cond (Nat.ble 22 pc) (cond (Nat.beq pc 22) (some (.ireturn, 1, 0, 0, .null, [])) none) (cond (Nat.beq pc 21) (some (.iconst 0, 1, 0, 0, .int 0, [])) none)) (cond (Nat.ble 18 pc) (cond (Nat.beq pc 18) (some (.goto 4, 3, 22, 0, .null, [])) none) (cond (Nat.beq pc 17) (some (.caload, 1, 0, 0, .null, [])) none))) (cond (Nat.ble 13 pc) (cond (Nat.ble 16 pc) (cond (Nat.beq pc 16) (some (.iload_n 1, 1, 0, 0, .null, [])) none) (cond (Nat.beq pc 13) (some (.getfield 9, 3, 1, 0, .null, [141])) none)) (cond (Nat.beq pc 12) (some (.aload_n 0, 1, 0, 0, .null, [])) none))) (cond (Nat.ble 5 pc) (cond (Nat.ble 6 pc) (cond (Nat.ble 9 pc) (cond (Nat.beq pc 9) (some (.if_icmp .ge 12, 3, 21, 0, .null, [])) none) (cond (Nat.beq pc 6) (some (.getfield 15, 3, 1, 1, .null, [142])) none)) (cond (Nat.beq pc 5) (some (.aload_n 0, 1, 0, 0, .null, [])) none)) (cond (Nat.ble 1 pc) (cond (Nat.ble 4 pc) (cond (Nat.beq pc 4) (some (.iload_n 1, 1, 0, 0, .null, [])) none) (cond (Nat.beq pc 1) (some (.ifCond .lt 20, 3, 21, 0, .null, [])) none)) (cond (Nat.beq pc 0) (some (.iload_n 1, 1, 0, 0, .null, [])) none)))
/-- BraidHorns$Pad.behindDigits(I)I -/
def xI_28 : Nat → Option xEn := fun pc => cond (Nat.ble 11 pc) (cond (Nat.ble 21 pc) (cond (Nat.ble 27 pc) (cond (Nat.ble 28 pc) (cond (Nat.beq pc 28) (some (.ireturn, 1, 0, 0, .null, [])) none) (cond (Nat.beq pc 27) (some (.iload_n 2, 1, 0, 0, .null, [])) none)) (cond (Nat.ble 24 pc) (cond (Nat.beq pc 24) (some (.goto (-22), 3, 2, 0, .null, [])) none) (cond (Nat.beq pc 21) (some (.iinc 2 1, 3, 0, 0, .int (1), [])) none))) (cond (Nat.ble 15 pc) (cond (Nat.ble 18 pc) (cond (Nat.beq pc 18) (some (.ifCond .eq 9, 3, 27, 0, .null, [])) none) (cond (Nat.beq pc 15) (some (.invokestatic 33, 3, 23, 1, .null, [463, 464, 51])) none)) (cond (Nat.ble 12 pc) (cond (Nat.beq pc 12) (some (.invokevirtual 41, 3, 27, 1, .null, [485, 486, 487, 51])) none) (cond (Nat.beq pc 11) (some (.iload_n 2, 1, 0, 0, .null, [])) none)))) (cond (Nat.ble 3 pc) (cond (Nat.ble 7 pc) (cond (Nat.ble 10 pc) (cond (Nat.beq pc 10) (some (.aload_n 0, 1, 0, 0, .null, [])) none) (cond (Nat.beq pc 7) (some (.if_icmp .ge 20, 3, 27, 0, .null, [])) none)) (cond (Nat.ble 4 pc) (cond (Nat.beq pc 4) (some (.getfield 15, 3, 1, 1, .null, [142])) none) (cond (Nat.beq pc 3) (some (.aload_n 0, 1, 0, 0, .null, [])) none))) (cond (Nat.ble 1 pc) (cond (Nat.ble 2 pc) (cond (Nat.beq pc 2) (some (.iload_n 2, 1, 0, 0, .null, [])) none) (cond (Nat.beq pc 1) (some (.istore_n 2, 1, 0, 0, .null, [])) none)) (cond (Nat.beq pc 0) (some (.iload_n 1, 1, 0, 0, .null, [])) none)))
/-- BraidHorns$Pad.numberFrom(I)I -/
def xI_29 : Nat → Option xEn := fun pc => cond (Nat.ble 19 pc) (cond (Nat.ble 28 pc) (cond (Nat.ble 32 pc) (cond (Nat.ble 38 pc) (cond (Nat.ble 39 pc) (cond (Nat.beq pc 39) (some (.ireturn, 1, 0, 0, .null, [])) none) (cond (Nat.beq pc 38) (some (.iload_n 2, 1, 0, 0, .null, [])) none)) (cond (Nat.ble 35 pc) (cond (Nat.beq pc 35) (some (.goto (-24), 3, 11, 0, .null, [])) none) (cond (Nat.beq pc 32) (some (.iinc 4 1, 3, 0, 0, .int (1), [])) none))) (cond (Nat.ble 30 pc) (cond (Nat.ble 31 pc) (cond (Nat.beq pc 31) (some (.istore_n 2, 1, 0, 0, .null, [])) none) (cond (Nat.beq pc 30) (some (.isub, 1, 0, 0, .null, [])) none)) (cond (Nat.beq pc 28) (some (.bipush 48, 2, 0, 0, .int 48, [])) none))) (cond (Nat.ble 22 pc) (cond (Nat.ble 24 pc) (cond (Nat.ble 27 pc) (cond (Nat.beq pc 27) (some (.iadd, 1, 0, 0, .null, [])) none) (cond (Nat.beq pc 24) (some (.invokevirtual 41, 3, 27, 1, .null, [485, 486, 487, 51])) none)) (cond (Nat.beq pc 22) (some (.iload 4, 2, 0, 0, .null, [])) none)) (cond (Nat.ble 20 pc) (cond (Nat.ble 21 pc) (cond (Nat.beq pc 21) (some (.aload_n 0, 1, 0, 0, .null, [])) none) (cond (Nat.beq pc 20) (some (.imul, 1, 0, 0, .null, [])) none)) (cond (Nat.beq pc 19) (some (.iload_n 2, 1, 0, 0, .null, [])) none)))) (cond (Nat.ble 8 pc) (cond (Nat.ble 13 pc) (cond (Nat.ble 14 pc) (cond (Nat.ble 17 pc) (cond (Nat.beq pc 17) (some (.bipush 10, 2, 0, 0, .int 10, [])) none) (cond (Nat.beq pc 14) (some (.if_icmp .ge 24, 3, 38, 0, .null, [])) none)) (cond (Nat.beq pc 13) (some (.iload_n 3, 1, 0, 0, .null, [])) none)) (cond (Nat.ble 9 pc) (cond (Nat.ble 11 pc) (cond (Nat.beq pc 11) (some (.iload 4, 2, 0, 0, .null, [])) none) (cond (Nat.beq pc 9) (some (.istore 4, 2, 0, 0, .null, [])) none)) (cond (Nat.beq pc 8) (some (.iload_n 1, 1, 0, 0, .null, [])) none))) (cond (Nat.ble 3 pc) (cond (Nat.ble 4 pc) (cond (Nat.ble 7 pc) (cond (Nat.beq pc 7) (some (.istore_n 3, 1, 0, 0, .null, [])) none) (cond (Nat.beq pc 4) (some (.invokevirtual 45, 3, 28, 1, .null, [481, 483, 7, 51])) none)) (cond (Nat.beq pc 3) (some (.iload_n 1, 1, 0, 0, .null, [])) none)) (cond (Nat.ble 1 pc) (cond (Nat.ble 2 pc) (cond (Nat.beq pc 2) (some (.aload_n 0, 1, 0, 0, .null, [])) none) (cond (Nat.beq pc 1) (some (.istore_n 2, 1, 0, 0, .null, [])) none)) (cond (Nat.beq pc 0) (some (.iconst 0, 1, 0, 0, .int 0, [])) none))))
/-- BraidHorns$Pad.notchFrom(I)I -/
def xI_30 : Nat → Option xEn := fun pc => cond (Nat.ble 6 pc) (cond (Nat.ble 8 pc) (cond (Nat.ble 11 pc) (cond (Nat.beq pc 11) (some (.ireturn, 1, 0, 0, .null, [])) none) (cond (Nat.beq pc 8) (some (.invokevirtual 49, 3, 29, 1, .null, [494, 478, 479, 51])) none)) (cond (Nat.ble 7 pc) (cond (Nat.beq pc 7) (some (.iadd, 1, 0, 0, .null, [])) none) (cond (Nat.beq pc 6) (some (.iconst 1, 1, 0, 0, .int 1, [])) none))) (cond (Nat.ble 2 pc) (cond (Nat.ble 3 pc) (cond (Nat.beq pc 3) (some (.invokevirtual 45, 3, 28, 1, .null, [481, 483, 7, 51])) none) (cond (Nat.beq pc 2) (some (.iload_n 1, 1, 0, 0, .null, [])) none)) (cond (Nat.ble 1 pc) (cond (Nat.beq pc 1) (some (.aload_n 0, 1, 0, 0, .null, [])) none) (cond (Nat.beq pc 0) (some (.aload_n 0, 1, 0, 0, .null, [])) none)))
/-- BraidHorns$Pad.nextOrder(I)I -/
def xI_31 : Nat → Option xEn := fun pc => cond (Nat.ble 12 pc) (cond (Nat.ble 23 pc) (cond (Nat.ble 27 pc) (cond (Nat.ble 28 pc) (cond (Nat.ble 29 pc) (cond (Nat.beq pc 29) (some (.ireturn, 1, 0, 0, .null, [])) none) (cond (Nat.beq pc 28) (some (.iadd, 1, 0, 0, .null, [])) none)) (cond (Nat.beq pc 27) (some (.iconst 1, 1, 0, 0, .int 1, [])) none)) (cond (Nat.ble 26 pc) (cond (Nat.beq pc 26) (some (.iload_n 2, 1, 0, 0, .null, [])) none) (cond (Nat.beq pc 23) (some (.goto (-21), 3, 2, 0, .null, [])) none))) (cond (Nat.ble 17 pc) (cond (Nat.ble 20 pc) (cond (Nat.beq pc 20) (some (.iinc 2 1, 3, 0, 0, .int (1), [])) none) (cond (Nat.beq pc 17) (some (.if_icmp .eq 9, 3, 26, 0, .null, [])) none)) (cond (Nat.ble 15 pc) (cond (Nat.beq pc 15) (some (.bipush 59, 2, 0, 0, .int 59, [])) none) (cond (Nat.beq pc 12) (some (.invokevirtual 41, 3, 27, 1, .null, [485, 486, 487, 51])) none)))) (cond (Nat.ble 4 pc) (cond (Nat.ble 10 pc) (cond (Nat.ble 11 pc) (cond (Nat.beq pc 11) (some (.iload_n 2, 1, 0, 0, .null, [])) none) (cond (Nat.beq pc 10) (some (.aload_n 0, 1, 0, 0, .null, [])) none)) (cond (Nat.ble 7 pc) (cond (Nat.beq pc 7) (some (.if_icmp .ge 19, 3, 26, 0, .null, [])) none) (cond (Nat.beq pc 4) (some (.getfield 15, 3, 1, 1, .null, [142])) none))) (cond (Nat.ble 2 pc) (cond (Nat.ble 3 pc) (cond (Nat.beq pc 3) (some (.aload_n 0, 1, 0, 0, .null, [])) none) (cond (Nat.beq pc 2) (some (.iload_n 2, 1, 0, 0, .null, [])) none)) (cond (Nat.ble 1 pc) (cond (Nat.beq pc 1) (some (.istore_n 2, 1, 0, 0, .null, [])) none) (cond (Nat.beq pc 0) (some (.iload_n 1, 1, 0, 0, .null, [])) none))))
/-- BraidHorns$Track.<init>()V -/
def xI_32 : Nat → Option xEn := fun pc => cond (Nat.ble 25 pc) (cond (Nat.ble 44 pc) (cond (Nat.ble 53 pc) (cond (Nat.ble 57 pc) (cond (Nat.ble 60 pc) (cond (Nat.ble 63 pc) (cond (Nat.beq pc 63) (some (.return_, 1, 0, 0, .null, [])) none) (cond (Nat.beq pc 60) (some (.goto (-25), 3, 35, 0, .null, [])) none)) (cond (Nat.beq pc 57) (some (.iinc 1 1, 3, 0, 0, .int (1), [])) none)) (cond (Nat.ble 56 pc) (cond (Nat.beq pc 56) (some (.aastore, 1, 0, 0, .null, [])) none) (cond (Nat.beq pc 53) (some (.invokespecial 21, 3, 0, 0, .null, [0, 75, 50])) none))) (cond (Nat.ble 48 pc) (cond (Nat.ble 49 pc) (cond (Nat.ble 52 pc) (cond (Nat.beq pc 52) (some (.dup, 1, 0, 0, .null, [])) none) (cond (Nat.beq pc 49) (some (.new 15, 3, 0, 0, .null, [71, 73, 50])) none)) (cond (Nat.beq pc 48) (some (.iload_n 1, 1, 0, 0, .null, [])) none)) (cond (Nat.ble 45 pc) (cond (Nat.beq pc 45) (some (.getfield 17, 3, 2, 1, .null, [106])) none) (cond (Nat.beq pc 44) (some (.aload_n 0, 1, 0, 0, .null, [])) none)))) (cond (Nat.ble 35 pc) (cond (Nat.ble 37 pc) (cond (Nat.ble 40 pc) (cond (Nat.ble 41 pc) (cond (Nat.beq pc 41) (some (.if_icmp .ge 22, 3, 63, 0, .null, [])) none) (cond (Nat.beq pc 40) (some (.arraylength, 1, 0, 0, .null, [])) none)) (cond (Nat.beq pc 37) (some (.getfield 17, 3, 2, 1, .null, [106])) none)) (cond (Nat.ble 36 pc) (cond (Nat.beq pc 36) (some (.aload_n 0, 1, 0, 0, .null, [])) none) (cond (Nat.beq pc 35) (some (.iload_n 1, 1, 0, 0, .null, [])) none))) (cond (Nat.ble 30 pc) (cond (Nat.ble 33 pc) (cond (Nat.ble 34 pc) (cond (Nat.beq pc 34) (some (.istore_n 1, 1, 0, 0, .null, [])) none) (cond (Nat.beq pc 33) (some (.iconst 0, 1, 0, 0, .int 0, [])) none)) (cond (Nat.beq pc 30) (some (.putfield 17, 3, 2, 1, .null, [106])) none)) (cond (Nat.ble 27 pc) (cond (Nat.beq pc 27) (some (.anewarray 15, 3, 4, 0, .null, [71])) none) (cond (Nat.beq pc 25) (some (.bipush 10, 2, 0, 0, .int 10, [])) none))))) (cond (Nat.ble 12 pc) (cond (Nat.ble 17 pc) (cond (Nat.ble 20 pc) (cond (Nat.ble 21 pc) (cond (Nat.ble 24 pc) (cond (Nat.beq pc 24) (some (.aload_n 0, 1, 0, 0, .null, [])) none) (cond (Nat.beq pc 21) (some (.putfield 9, 3, 2, 0, .null, [105])) none)) (cond (Nat.beq pc 20) (some (.iastore, 1, 0, 0, .null, [])) none)) (cond (Nat.ble 18 pc) (cond (Nat.beq pc 18) (some (.bipush 60, 2, 0, 0, .int 60, [])) none) (cond (Nat.beq pc 17) (some (.iconst 2, 1, 0, 0, .int 2, [])) none))) (cond (Nat.ble 14 pc) (cond (Nat.ble 15 pc) (cond (Nat.ble 16 pc) (cond (Nat.beq pc 16) (some (.dup, 1, 0, 0, .null, [])) none) (cond (Nat.beq pc 15) (some (.iastore, 1, 0, 0, .null, [])) none)) (cond (Nat.beq pc 14) (some (.iconst 2, 1, 0, 0, .int 2, [])) none)) (cond (Nat.ble 13 pc) (cond (Nat.beq pc 13) (some (.iconst 1, 1, 0, 0, .int 1, [])) none) (cond (Nat.beq pc 12) (some (.dup, 1, 0, 0, .null, [])) none)))) (cond (Nat.ble 6 pc) (cond (Nat.ble 9 pc) (cond (Nat.ble 10 pc) (cond (Nat.ble 11 pc) (cond (Nat.beq pc 11) (some (.iastore, 1, 0, 0, .null, [])) none) (cond (Nat.beq pc 10) (some (.iconst 3, 1, 0, 0, .int 3, [])) none)) (cond (Nat.beq pc 9) (some (.iconst 0, 1, 0, 0, .int 0, [])) none)) (cond (Nat.ble 8 pc) (cond (Nat.beq pc 8) (some (.dup, 1, 0, 0, .null, [])) none) (cond (Nat.beq pc 6) (some (.newarray .int, 2, 0, 0, .null, [104])) none))) (cond (Nat.ble 4 pc) (cond (Nat.ble 5 pc) (cond (Nat.beq pc 5) (some (.iconst 3, 1, 0, 0, .int 3, [])) none) (cond (Nat.beq pc 4) (some (.aload_n 0, 1, 0, 0, .null, [])) none)) (cond (Nat.ble 1 pc) (cond (Nat.beq pc 1) (some (.invokespecial 3, 3, 1000, 0, .null, [70, 63, 64])) none) (cond (Nat.beq pc 0) (some (.aload_n 0, 1, 0, 0, .null, [])) none)))))
/-- BraidHorns$Track.copyFrom(LBraidHorns$Track;)V -/
def xI_33 : Nat → Option xEn := fun pc => cond (Nat.ble 50 pc) (cond (Nat.ble 76 pc) (cond (Nat.ble 91 pc) (cond (Nat.ble 99 pc) (cond (Nat.ble 103 pc) (cond (Nat.ble 106 pc) (cond (Nat.beq pc 106) (some (.return_, 1, 0, 0, .null, [])) none) (cond (Nat.beq pc 103) (some (.putfield 51, 3, 2, 8, .null, [114])) none)) (cond (Nat.ble 100 pc) (cond (Nat.beq pc 100) (some (.getfield 51, 3, 2, 8, .null, [114])) none) (cond (Nat.beq pc 99) (some (.aload_n 1, 1, 0, 0, .null, [])) none))) (cond (Nat.ble 95 pc) (cond (Nat.ble 98 pc) (cond (Nat.beq pc 98) (some (.aload_n 0, 1, 0, 0, .null, [])) none) (cond (Nat.beq pc 95) (some (.putfield 48, 3, 2, 7, .null, [113])) none)) (cond (Nat.ble 92 pc) (cond (Nat.beq pc 92) (some (.getfield 48, 3, 2, 7, .null, [113])) none) (cond (Nat.beq pc 91) (some (.aload_n 1, 1, 0, 0, .null, [])) none)))) (cond (Nat.ble 83 pc) (cond (Nat.ble 87 pc) (cond (Nat.ble 90 pc) (cond (Nat.beq pc 90) (some (.aload_n 0, 1, 0, 0, .null, [])) none) (cond (Nat.beq pc 87) (some (.putfield 45, 3, 2, 6, .null, [112])) none)) (cond (Nat.ble 84 pc) (cond (Nat.beq pc 84) (some (.getfield 45, 3, 2, 6, .null, [112])) none) (cond (Nat.beq pc 83) (some (.aload_n 1, 1, 0, 0, .null, [])) none))) (cond (Nat.ble 79 pc) (cond (Nat.ble 82 pc) (cond (Nat.beq pc 82) (some (.aload_n 0, 1, 0, 0, .null, [])) none) (cond (Nat.beq pc 79) (some (.putfield 42, 3, 2, 5, .null, [111])) none)) (cond (Nat.beq pc 76) (some (.getfield 42, 3, 2, 5, .null, [111])) none)))) (cond (Nat.ble 63 pc) (cond (Nat.ble 68 pc) (cond (Nat.ble 74 pc) (cond (Nat.ble 75 pc) (cond (Nat.beq pc 75) (some (.aload_n 1, 1, 0, 0, .null, [])) none) (cond (Nat.beq pc 74) (some (.aload_n 0, 1, 0, 0, .null, [])) none)) (cond (Nat.ble 71 pc) (cond (Nat.beq pc 71) (some (.putfield 39, 3, 2, 4, .null, [110])) none) (cond (Nat.beq pc 68) (some (.getfield 39, 3, 2, 4, .null, [110])) none))) (cond (Nat.ble 66 pc) (cond (Nat.ble 67 pc) (cond (Nat.beq pc 67) (some (.aload_n 1, 1, 0, 0, .null, [])) none) (cond (Nat.beq pc 66) (some (.aload_n 0, 1, 0, 0, .null, [])) none)) (cond (Nat.beq pc 63) (some (.putfield 36, 3, 2, 3, .null, [109])) none))) (cond (Nat.ble 55 pc) (cond (Nat.ble 59 pc) (cond (Nat.ble 60 pc) (cond (Nat.beq pc 60) (some (.getfield 36, 3, 2, 3, .null, [109])) none) (cond (Nat.beq pc 59) (some (.aload_n 1, 1, 0, 0, .null, [])) none)) (cond (Nat.ble 58 pc) (cond (Nat.beq pc 58) (some (.aload_n 0, 1, 0, 0, .null, [])) none) (cond (Nat.beq pc 55) (some (.putfield 32, 3, 2, 2, .null, [108])) none))) (cond (Nat.ble 51 pc) (cond (Nat.ble 52 pc) (cond (Nat.beq pc 52) (some (.getfield 32, 3, 2, 2, .null, [108])) none) (cond (Nat.beq pc 51) (some (.aload_n 1, 1, 0, 0, .null, [])) none)) (cond (Nat.beq pc 50) (some (.aload_n 0, 1, 0, 0, .null, [])) none))))) (cond (Nat.ble 22 pc) (cond (Nat.ble 35 pc) (cond (Nat.ble 40 pc) (cond (Nat.ble 44 pc) (cond (Nat.ble 47 pc) (cond (Nat.beq pc 47) (some (.goto (-27), 3, 20, 0, .null, [])) none) (cond (Nat.beq pc 44) (some (.iinc 2 1, 3, 0, 0, .int (1), [])) none)) (cond (Nat.ble 41 pc) (cond (Nat.beq pc 41) (some (.invokevirtual 28, 3, 2, 1, .null, [185, 186, 187, 50])) none) (cond (Nat.beq pc 40) (some (.aaload, 1, 0, 0, .null, [])) none))) (cond (Nat.ble 36 pc) (cond (Nat.ble 39 pc) (cond (Nat.beq pc 39) (some (.iload_n 2, 1, 0, 0, .null, [])) none) (cond (Nat.beq pc 36) (some (.getfield 17, 3, 2, 1, .null, [106])) none)) (cond (Nat.beq pc 35) (some (.aload_n 1, 1, 0, 0, .null, [])) none))) (cond (Nat.ble 29 pc) (cond (Nat.ble 33 pc) (cond (Nat.ble 34 pc) (cond (Nat.beq pc 34) (some (.aaload, 1, 0, 0, .null, [])) none) (cond (Nat.beq pc 33) (some (.iload_n 2, 1, 0, 0, .null, [])) none)) (cond (Nat.ble 30 pc) (cond (Nat.beq pc 30) (some (.getfield 17, 3, 2, 1, .null, [106])) none) (cond (Nat.beq pc 29) (some (.aload_n 0, 1, 0, 0, .null, [])) none))) (cond (Nat.ble 25 pc) (cond (Nat.ble 26 pc) (cond (Nat.beq pc 26) (some (.if_icmp .ge 24, 3, 50, 0, .null, [])) none) (cond (Nat.beq pc 25) (some (.arraylength, 1, 0, 0, .null, [])) none)) (cond (Nat.beq pc 22) (some (.getfield 17, 3, 2, 1, .null, [106])) none)))) (cond (Nat.ble 11 pc) (cond (Nat.ble 18 pc) (cond (Nat.ble 20 pc) (cond (Nat.ble 21 pc) (cond (Nat.beq pc 21) (some (.aload_n 0, 1, 0, 0, .null, [])) none) (cond (Nat.beq pc 20) (some (.iload_n 2, 1, 0, 0, .null, [])) none)) (cond (Nat.ble 19 pc) (cond (Nat.beq pc 19) (some (.istore_n 2, 1, 0, 0, .null, [])) none) (cond (Nat.beq pc 18) (some (.iconst 0, 1, 0, 0, .int 0, [])) none))) (cond (Nat.ble 14 pc) (cond (Nat.ble 15 pc) (cond (Nat.beq pc 15) (some (.invokestatic 22, 3, 1001, 0, .null, [182, 184, 183, 53])) none) (cond (Nat.beq pc 14) (some (.arraylength, 1, 0, 0, .null, [])) none)) (cond (Nat.beq pc 11) (some (.getfield 9, 3, 2, 0, .null, [105])) none))) (cond (Nat.ble 5 pc) (cond (Nat.ble 9 pc) (cond (Nat.ble 10 pc) (cond (Nat.beq pc 10) (some (.aload_n 0, 1, 0, 0, .null, [])) none) (cond (Nat.beq pc 9) (some (.iconst 0, 1, 0, 0, .int 0, [])) none)) (cond (Nat.ble 6 pc) (cond (Nat.beq pc 6) (some (.getfield 9, 3, 2, 0, .null, [105])) none) (cond (Nat.beq pc 5) (some (.aload_n 0, 1, 0, 0, .null, [])) none))) (cond (Nat.ble 1 pc) (cond (Nat.ble 4 pc) (cond (Nat.beq pc 4) (some (.iconst 0, 1, 0, 0, .int 0, [])) none) (cond (Nat.beq pc 1) (some (.getfield 9, 3, 2, 0, .null, [105])) none)) (cond (Nat.beq pc 0) (some (.aload_n 1, 1, 0, 0, .null, [])) none)))))
/-- BraidHorns$Track.horns()I -/
def xI_34 : Nat → Option xEn := fun pc => cond (Nat.ble 5 pc) (cond (Nat.ble 7 pc) (cond (Nat.ble 8 pc) (cond (Nat.beq pc 8) (some (.ireturn, 1, 0, 0, .null, [])) none) (cond (Nat.beq pc 7) (some (.imul, 1, 0, 0, .null, [])) none)) (cond (Nat.ble 6 pc) (cond (Nat.beq pc 6) (some (.iaload, 1, 0, 0, .null, [])) none) (cond (Nat.beq pc 5) (some (.iconst 0, 1, 0, 0, .int 0, [])) none))) (cond (Nat.ble 1 pc) (cond (Nat.ble 2 pc) (cond (Nat.beq pc 2) (some (.getfield 9, 3, 2, 0, .null, [105])) none) (cond (Nat.beq pc 1) (some (.aload_n 0, 1, 0, 0, .null, [])) none)) (cond (Nat.beq pc 0) (some (.iconst 2, 1, 0, 0, .int 2, [])) none))
/-- BraidHorns$Track.hasCarrier(I)Z -/
def xI_35 : Nat → Option xEn := fun pc => cond (Nat.ble 14 pc) (cond (Nat.ble 22 pc) (cond (Nat.ble 26 pc) (cond (Nat.ble 27 pc) (cond (Nat.beq pc 27) (some (.ireturn, 1, 0, 0, .null, [])) none) (cond (Nat.beq pc 26) (some (.iconst 0, 1, 0, 0, .int 0, [])) none)) (cond (Nat.ble 23 pc) (cond (Nat.beq pc 23) (some (.goto 4, 3, 27, 0, .null, [])) none) (cond (Nat.beq pc 22) (some (.iconst 1, 1, 0, 0, .int 1, [])) none))) (cond (Nat.ble 16 pc) (cond (Nat.ble 19 pc) (cond (Nat.beq pc 19) (some (.ifCond .eq 7, 3, 26, 0, .null, [])) none) (cond (Nat.beq pc 16) (some (.getfield 54, 3, 0, 0, .null, [79])) none)) (cond (Nat.ble 15 pc) (cond (Nat.beq pc 15) (some (.aaload, 1, 0, 0, .null, [])) none) (cond (Nat.beq pc 14) (some (.iload_n 1, 1, 0, 0, .null, [])) none)))) (cond (Nat.ble 5 pc) (cond (Nat.ble 10 pc) (cond (Nat.ble 11 pc) (cond (Nat.beq pc 11) (some (.getfield 17, 3, 2, 1, .null, [106])) none) (cond (Nat.beq pc 10) (some (.aload_n 0, 1, 0, 0, .null, [])) none)) (cond (Nat.ble 7 pc) (cond (Nat.beq pc 7) (some (.if_icmp .ge 19, 3, 26, 0, .null, [])) none) (cond (Nat.beq pc 5) (some (.bipush 10, 2, 0, 0, .int 10, [])) none))) (cond (Nat.ble 1 pc) (cond (Nat.ble 4 pc) (cond (Nat.beq pc 4) (some (.iload_n 1, 1, 0, 0, .null, [])) none) (cond (Nat.beq pc 1) (some (.ifCond .lt 25, 3, 26, 0, .null, [])) none)) (cond (Nat.beq pc 0) (some (.iload_n 1, 1, 0, 0, .null, [])) none)))
/-- BraidHorns$Track.placeOf(II)I -/
def xI_36 : Nat → Option xEn := fun pc => cond (Nat.ble 17 pc) (cond (Nat.ble 24 pc) (cond (Nat.ble 26 pc) (cond (Nat.ble 27 pc) (cond (Nat.ble 28 pc) (cond (Nat.beq pc 28) (some (.ireturn, 1, 0, 0, .null, [])) none) (cond (Nat.beq pc 27) (some (.iadd, 1, 0, 0, .null, [])) none)) (cond (Nat.beq pc 26) (some (.iload_n 2, 1, 0, 0, .null, [])) none)) (cond (Nat.ble 25 pc) (cond (Nat.beq pc 25) (some (.imul, 1, 0, 0, .null, [])) none) (cond (Nat.beq pc 24) (some (.iload_n 1, 1, 0, 0, .null, [])) none))) (cond (Nat.ble 21 pc) (cond (Nat.ble 22 pc) (cond (Nat.ble 23 pc) (cond (Nat.beq pc 23) (some (.iconst 4, 1, 0, 0, .int 4, [])) none) (cond (Nat.beq pc 22) (some (.ireturn, 1, 0, 0, .null, [])) none)) (cond (Nat.beq pc 21) (some (.iconst (-1), 1, 0, 0, .int (-1), [])) none)) (cond (Nat.ble 18 pc) (cond (Nat.beq pc 18) (some (.if_icmp .lt 5, 3, 23, 0, .null, [])) none) (cond (Nat.beq pc 17) (some (.iconst 4, 1, 0, 0, .int 4, [])) none)))) (cond (Nat.ble 6 pc) (cond (Nat.ble 12 pc) (cond (Nat.ble 13 pc) (cond (Nat.ble 16 pc) (cond (Nat.beq pc 16) (some (.iload_n 2, 1, 0, 0, .null, [])) none) (cond (Nat.beq pc 13) (some (.ifCond .lt 8, 3, 21, 0, .null, [])) none)) (cond (Nat.beq pc 12) (some (.iload_n 2, 1, 0, 0, .null, [])) none)) (cond (Nat.ble 9 pc) (cond (Nat.beq pc 9) (some (.if_icmp .ge 12, 3, 21, 0, .null, [])) none) (cond (Nat.beq pc 6) (some (.invokevirtual 58, 3, 34, 0, .null, [217, 218, 219, 49])) none))) (cond (Nat.ble 4 pc) (cond (Nat.ble 5 pc) (cond (Nat.beq pc 5) (some (.aload_n 0, 1, 0, 0, .null, [])) none) (cond (Nat.beq pc 4) (some (.iload_n 1, 1, 0, 0, .null, [])) none)) (cond (Nat.ble 1 pc) (cond (Nat.beq pc 1) (some (.ifCond .lt 20, 3, 21, 0, .null, [])) none) (cond (Nat.beq pc 0) (some (.iload_n 1, 1, 0, 0, .null, [])) none))))
/-- BraidHorns$Track.carrierIn(I)I -/
def xI_37 : Nat → Option xEn := fun pc => cond (Nat.ble 21 pc) (cond (Nat.ble 33 pc) (cond (Nat.ble 38 pc) (cond (Nat.ble 41 pc) (cond (Nat.ble 43 pc) (cond (Nat.beq pc 43) (some (.ireturn, 1, 0, 0, .null, [])) none) (cond (Nat.beq pc 41) (some (.bipush (-6), 2, 0, 0, .int (-6), [])) none)) (cond (Nat.beq pc 38) (some (.goto (-36), 3, 2, 0, .null, [])) none)) (cond (Nat.ble 34 pc) (cond (Nat.ble 35 pc) (cond (Nat.beq pc 35) (some (.iinc 2 1, 3, 0, 0, .int (1), [])) none) (cond (Nat.beq pc 34) (some (.ireturn, 1, 0, 0, .null, [])) none)) (cond (Nat.beq pc 33) (some (.iload_n 2, 1, 0, 0, .null, [])) none))) (cond (Nat.ble 26 pc) (cond (Nat.ble 29 pc) (cond (Nat.ble 30 pc) (cond (Nat.beq pc 30) (some (.if_icmp .ne 5, 3, 35, 0, .null, [])) none) (cond (Nat.beq pc 29) (some (.iload_n 1, 1, 0, 0, .null, [])) none)) (cond (Nat.beq pc 26) (some (.getfield 62, 3, 0, 1, .null, [81])) none)) (cond (Nat.ble 24 pc) (cond (Nat.ble 25 pc) (cond (Nat.beq pc 25) (some (.aaload, 1, 0, 0, .null, [])) none) (cond (Nat.beq pc 24) (some (.iload_n 2, 1, 0, 0, .null, [])) none)) (cond (Nat.beq pc 21) (some (.getfield 17, 3, 2, 1, .null, [106])) none)))) (cond (Nat.ble 9 pc) (cond (Nat.ble 14 pc) (cond (Nat.ble 17 pc) (cond (Nat.ble 20 pc) (cond (Nat.beq pc 20) (some (.aload_n 0, 1, 0, 0, .null, [])) none) (cond (Nat.beq pc 17) (some (.ifCond .eq 18, 3, 35, 0, .null, [])) none)) (cond (Nat.beq pc 14) (some (.getfield 54, 3, 0, 0, .null, [79])) none)) (cond (Nat.ble 12 pc) (cond (Nat.ble 13 pc) (cond (Nat.beq pc 13) (some (.aaload, 1, 0, 0, .null, [])) none) (cond (Nat.beq pc 12) (some (.iload_n 2, 1, 0, 0, .null, [])) none)) (cond (Nat.beq pc 9) (some (.getfield 17, 3, 2, 1, .null, [106])) none))) (cond (Nat.ble 3 pc) (cond (Nat.ble 5 pc) (cond (Nat.ble 8 pc) (cond (Nat.beq pc 8) (some (.aload_n 0, 1, 0, 0, .null, [])) none) (cond (Nat.beq pc 5) (some (.if_icmp .ge 36, 3, 41, 0, .null, [])) none)) (cond (Nat.beq pc 3) (some (.bipush 10, 2, 0, 0, .int 10, [])) none)) (cond (Nat.ble 1 pc) (cond (Nat.ble 2 pc) (cond (Nat.beq pc 2) (some (.iload_n 2, 1, 0, 0, .null, [])) none) (cond (Nat.beq pc 1) (some (.istore_n 2, 1, 0, 0, .null, [])) none)) (cond (Nat.beq pc 0) (some (.iconst 0, 1, 0, 0, .int 0, [])) none))))
/-- BraidHorns$Track.turnedPlace(II)I -/
def xI_38 : Nat → Option xEn := fun pc => cond (Nat.ble 15 pc) (cond (Nat.ble 25 pc) (cond (Nat.ble 29 pc) (cond (Nat.ble 32 pc) (cond (Nat.ble 33 pc) (cond (Nat.beq pc 33) (some (.ireturn, 1, 0, 0, .null, [])) none) (cond (Nat.beq pc 32) (some (.iload_n 3, 1, 0, 0, .null, [])) none)) (cond (Nat.beq pc 29) (some (.goto (-21), 3, 8, 0, .null, [])) none)) (cond (Nat.ble 26 pc) (cond (Nat.beq pc 26) (some (.iinc 4 1, 3, 0, 0, .int (1), [])) none) (cond (Nat.beq pc 25) (some (.istore_n 3, 1, 0, 0, .null, [])) none))) (cond (Nat.ble 19 pc) (cond (Nat.ble 22 pc) (cond (Nat.beq pc 22) (some (.invokestatic 69, 3, 3, 1, .null, [403, 295, 54])) none) (cond (Nat.beq pc 19) (some (.invokestatic 75, 3, 4, 2, .null, [404, 229, 54])) none)) (cond (Nat.ble 16 pc) (cond (Nat.beq pc 16) (some (.invokevirtual 58, 3, 34, 0, .null, [217, 218, 219, 49])) none) (cond (Nat.beq pc 15) (some (.aload_n 0, 1, 0, 0, .null, [])) none)))) (cond (Nat.ble 6 pc) (cond (Nat.ble 10 pc) (cond (Nat.ble 11 pc) (cond (Nat.ble 14 pc) (cond (Nat.beq pc 14) (some (.iload_n 3, 1, 0, 0, .null, [])) none) (cond (Nat.beq pc 11) (some (.if_icmp .ge 21, 3, 32, 0, .null, [])) none)) (cond (Nat.beq pc 10) (some (.iload_n 2, 1, 0, 0, .null, [])) none)) (cond (Nat.ble 8 pc) (cond (Nat.beq pc 8) (some (.iload 4, 2, 0, 0, .null, [])) none) (cond (Nat.beq pc 6) (some (.istore 4, 2, 0, 0, .null, [])) none))) (cond (Nat.ble 4 pc) (cond (Nat.ble 5 pc) (cond (Nat.beq pc 5) (some (.iconst 1, 1, 0, 0, .int 1, [])) none) (cond (Nat.beq pc 4) (some (.istore_n 3, 1, 0, 0, .null, [])) none)) (cond (Nat.ble 1 pc) (cond (Nat.beq pc 1) (some (.invokestatic 69, 3, 3, 1, .null, [403, 295, 54])) none) (cond (Nat.beq pc 0) (some (.iload_n 1, 1, 0, 0, .null, [])) none))))
/-- BraidHorns$Track.carrierTurnedTo(II)I -/
def xI_39 : Nat → Option xEn := fun pc => cond (Nat.ble 22 pc) (cond (Nat.ble 35 pc) (cond (Nat.ble 40 pc) (cond (Nat.ble 46 pc) (cond (Nat.ble 48 pc) (cond (Nat.beq pc 48) (some (.ireturn, 1, 0, 0, .null, [])) none) (cond (Nat.beq pc 46) (some (.bipush (-6), 2, 0, 0, .int (-6), [])) none)) (cond (Nat.ble 43 pc) (cond (Nat.beq pc 43) (some (.goto (-41), 3, 2, 0, .null, [])) none) (cond (Nat.beq pc 40) (some (.iinc 3 1, 3, 0, 0, .int (1), [])) none))) (cond (Nat.ble 38 pc) (cond (Nat.ble 39 pc) (cond (Nat.beq pc 39) (some (.ireturn, 1, 0, 0, .null, [])) none) (cond (Nat.beq pc 38) (some (.iload_n 3, 1, 0, 0, .null, [])) none)) (cond (Nat.beq pc 35) (some (.if_icmp .ne 5, 3, 40, 0, .null, [])) none))) (cond (Nat.ble 27 pc) (cond (Nat.ble 31 pc) (cond (Nat.ble 34 pc) (cond (Nat.beq pc 34) (some (.iload_n 1, 1, 0, 0, .null, [])) none) (cond (Nat.beq pc 31) (some (.invokevirtual 65, 3, 38, 2, .null, [399, 401, 5, 49])) none)) (cond (Nat.ble 30 pc) (cond (Nat.beq pc 30) (some (.iload_n 2, 1, 0, 0, .null, [])) none) (cond (Nat.beq pc 27) (some (.getfield 62, 3, 0, 1, .null, [81])) none))) (cond (Nat.ble 25 pc) (cond (Nat.ble 26 pc) (cond (Nat.beq pc 26) (some (.aaload, 1, 0, 0, .null, [])) none) (cond (Nat.beq pc 25) (some (.iload_n 3, 1, 0, 0, .null, [])) none)) (cond (Nat.beq pc 22) (some (.getfield 17, 3, 2, 1, .null, [106])) none)))) (cond (Nat.ble 9 pc) (cond (Nat.ble 14 pc) (cond (Nat.ble 20 pc) (cond (Nat.ble 21 pc) (cond (Nat.beq pc 21) (some (.aload_n 0, 1, 0, 0, .null, [])) none) (cond (Nat.beq pc 20) (some (.aload_n 0, 1, 0, 0, .null, [])) none)) (cond (Nat.ble 17 pc) (cond (Nat.beq pc 17) (some (.ifCond .eq 23, 3, 40, 0, .null, [])) none) (cond (Nat.beq pc 14) (some (.getfield 54, 3, 0, 0, .null, [79])) none))) (cond (Nat.ble 12 pc) (cond (Nat.ble 13 pc) (cond (Nat.beq pc 13) (some (.aaload, 1, 0, 0, .null, [])) none) (cond (Nat.beq pc 12) (some (.iload_n 3, 1, 0, 0, .null, [])) none)) (cond (Nat.beq pc 9) (some (.getfield 17, 3, 2, 1, .null, [106])) none))) (cond (Nat.ble 3 pc) (cond (Nat.ble 5 pc) (cond (Nat.ble 8 pc) (cond (Nat.beq pc 8) (some (.aload_n 0, 1, 0, 0, .null, [])) none) (cond (Nat.beq pc 5) (some (.if_icmp .ge 41, 3, 46, 0, .null, [])) none)) (cond (Nat.beq pc 3) (some (.bipush 10, 2, 0, 0, .int 10, [])) none)) (cond (Nat.ble 1 pc) (cond (Nat.ble 2 pc) (cond (Nat.beq pc 2) (some (.iload_n 3, 1, 0, 0, .null, [])) none) (cond (Nat.beq pc 1) (some (.istore_n 3, 1, 0, 0, .null, [])) none)) (cond (Nat.beq pc 0) (some (.iconst 0, 1, 0, 0, .int 0, [])) none))))
/-- BraidHorns$Track.carrierOfRank(I)I -/
def xI_40 : Nat → Option xEn := fun pc => cond (Nat.ble 19 pc) (cond (Nat.ble 32 pc) (cond (Nat.ble 38 pc) (cond (Nat.ble 44 pc) (cond (Nat.ble 45 pc) (cond (Nat.beq pc 45) (some (.ireturn, 1, 0, 0, .null, [])) none) (cond (Nat.beq pc 44) (some (.iconst (-1), 1, 0, 0, .int (-1), [])) none)) (cond (Nat.ble 41 pc) (cond (Nat.beq pc 41) (some (.goto (-37), 3, 4, 0, .null, [])) none) (cond (Nat.beq pc 38) (some (.iinc 3 1, 3, 0, 0, .int (1), [])) none))) (cond (Nat.ble 34 pc) (cond (Nat.ble 35 pc) (cond (Nat.beq pc 35) (some (.iinc 2 (-1), 3, 0, 0, .int (-1), [])) none) (cond (Nat.beq pc 34) (some (.ireturn, 1, 0, 0, .null, [])) none)) (cond (Nat.beq pc 32) (some (.iload 4, 2, 0, 0, .null, [])) none))) (cond (Nat.ble 25 pc) (cond (Nat.ble 28 pc) (cond (Nat.ble 29 pc) (cond (Nat.beq pc 29) (some (.ifCond .ne 6, 3, 35, 0, .null, [])) none) (cond (Nat.beq pc 28) (some (.iload_n 2, 1, 0, 0, .null, [])) none)) (cond (Nat.beq pc 25) (some (.if_icmp .eq 13, 3, 38, 0, .null, [])) none)) (cond (Nat.ble 21 pc) (cond (Nat.ble 23 pc) (cond (Nat.beq pc 23) (some (.bipush (-6), 2, 0, 0, .int (-6), [])) none) (cond (Nat.beq pc 21) (some (.iload 4, 2, 0, 0, .null, [])) none)) (cond (Nat.beq pc 19) (some (.istore 4, 2, 0, 0, .null, [])) none)))) (cond (Nat.ble 6 pc) (cond (Nat.ble 11 pc) (cond (Nat.ble 15 pc) (cond (Nat.ble 16 pc) (cond (Nat.beq pc 16) (some (.invokevirtual 78, 3, 37, 1, .null, [351, 340, 341, 49])) none) (cond (Nat.beq pc 15) (some (.iload_n 3, 1, 0, 0, .null, [])) none)) (cond (Nat.ble 14 pc) (cond (Nat.beq pc 14) (some (.aload_n 0, 1, 0, 0, .null, [])) none) (cond (Nat.beq pc 11) (some (.if_icmp .ge 33, 3, 44, 0, .null, [])) none))) (cond (Nat.ble 7 pc) (cond (Nat.ble 10 pc) (cond (Nat.beq pc 10) (some (.imul, 1, 0, 0, .null, [])) none) (cond (Nat.beq pc 7) (some (.invokevirtual 58, 3, 34, 0, .null, [217, 218, 219, 49])) none)) (cond (Nat.beq pc 6) (some (.aload_n 0, 1, 0, 0, .null, [])) none))) (cond (Nat.ble 3 pc) (cond (Nat.ble 4 pc) (cond (Nat.ble 5 pc) (cond (Nat.beq pc 5) (some (.iconst 4, 1, 0, 0, .int 4, [])) none) (cond (Nat.beq pc 4) (some (.iload_n 3, 1, 0, 0, .null, [])) none)) (cond (Nat.beq pc 3) (some (.istore_n 3, 1, 0, 0, .null, [])) none)) (cond (Nat.ble 1 pc) (cond (Nat.ble 2 pc) (cond (Nat.beq pc 2) (some (.iconst 0, 1, 0, 0, .int 0, [])) none) (cond (Nat.beq pc 1) (some (.istore_n 2, 1, 0, 0, .null, [])) none)) (cond (Nat.beq pc 0) (some (.iload_n 1, 1, 0, 0, .null, [])) none))))
/-- BraidHorns$Track.taken()J -/
def xI_41 : Nat → Option xEn := fun pc => cond (Nat.ble 22 pc) (cond (Nat.ble 33 pc) (cond (Nat.ble 36 pc) (cond (Nat.ble 42 pc) (cond (Nat.ble 43 pc) (cond (Nat.beq pc 43) (some (.lreturn, 1, 0, 0, .null, [])) none) (cond (Nat.beq pc 42) (some (.lload_n 1, 1, 0, 0, .null, [])) none)) (cond (Nat.ble 39 pc) (cond (Nat.beq pc 39) (some (.goto (-35), 3, 4, 0, .null, [])) none) (cond (Nat.beq pc 36) (some (.iinc 3 1, 3, 0, 0, .int (1), [])) none))) (cond (Nat.ble 34 pc) (cond (Nat.ble 35 pc) (cond (Nat.beq pc 35) (some (.lstore_n 1, 1, 0, 0, .null, [])) none) (cond (Nat.beq pc 34) (some (.lor, 1, 0, 0, .null, [])) none)) (cond (Nat.beq pc 33) (some (.lshl, 1, 0, 0, .null, [])) none))) (cond (Nat.ble 25 pc) (cond (Nat.ble 29 pc) (cond (Nat.ble 30 pc) (cond (Nat.beq pc 30) (some (.getfield 62, 3, 0, 1, .null, [81])) none) (cond (Nat.beq pc 29) (some (.aaload, 1, 0, 0, .null, [])) none)) (cond (Nat.ble 28 pc) (cond (Nat.beq pc 28) (some (.iload_n 3, 1, 0, 0, .null, [])) none) (cond (Nat.beq pc 25) (some (.getfield 17, 3, 2, 1, .null, [106])) none))) (cond (Nat.ble 23 pc) (cond (Nat.ble 24 pc) (cond (Nat.beq pc 24) (some (.aload_n 0, 1, 0, 0, .null, [])) none) (cond (Nat.beq pc 23) (some (.lconst 1, 1, 0, 0, .long 1, [])) none)) (cond (Nat.beq pc 22) (some (.lload_n 1, 1, 0, 0, .null, [])) none)))) (cond (Nat.ble 7 pc) (cond (Nat.ble 14 pc) (cond (Nat.ble 16 pc) (cond (Nat.ble 19 pc) (cond (Nat.beq pc 19) (some (.ifCond .eq 17, 3, 36, 0, .null, [])) none) (cond (Nat.beq pc 16) (some (.getfield 54, 3, 0, 0, .null, [79])) none)) (cond (Nat.ble 15 pc) (cond (Nat.beq pc 15) (some (.aaload, 1, 0, 0, .null, [])) none) (cond (Nat.beq pc 14) (some (.iload_n 3, 1, 0, 0, .null, [])) none))) (cond (Nat.ble 10 pc) (cond (Nat.ble 11 pc) (cond (Nat.beq pc 11) (some (.getfield 17, 3, 2, 1, .null, [106])) none) (cond (Nat.beq pc 10) (some (.aload_n 0, 1, 0, 0, .null, [])) none)) (cond (Nat.beq pc 7) (some (.if_icmp .ge 35, 3, 42, 0, .null, [])) none))) (cond (Nat.ble 3 pc) (cond (Nat.ble 4 pc) (cond (Nat.ble 5 pc) (cond (Nat.beq pc 5) (some (.bipush 10, 2, 0, 0, .int 10, [])) none) (cond (Nat.beq pc 4) (some (.iload_n 3, 1, 0, 0, .null, [])) none)) (cond (Nat.beq pc 3) (some (.istore_n 3, 1, 0, 0, .null, [])) none)) (cond (Nat.ble 1 pc) (cond (Nat.ble 2 pc) (cond (Nat.beq pc 2) (some (.iconst 0, 1, 0, 0, .int 0, [])) none) (cond (Nat.beq pc 1) (some (.lstore_n 1, 1, 0, 0, .null, [])) none)) (cond (Nat.beq pc 0) (some (.lconst 0, 1, 0, 0, .long 0, [])) none))))
/-- BraidHorns$Track.carrierSet()I -/
def xI_42 : Nat → Option xEn := fun pc => cond (Nat.ble 16 pc) (cond (Nat.ble 26 pc) (cond (Nat.ble 31 pc) (cond (Nat.ble 34 pc) (cond (Nat.ble 35 pc) (cond (Nat.beq pc 35) (some (.ireturn, 1, 0, 0, .null, [])) none) (cond (Nat.beq pc 34) (some (.iload_n 1, 1, 0, 0, .null, [])) none)) (cond (Nat.beq pc 31) (some (.goto (-27), 3, 4, 0, .null, [])) none)) (cond (Nat.ble 27 pc) (cond (Nat.ble 28 pc) (cond (Nat.beq pc 28) (some (.iinc 2 1, 3, 0, 0, .int (1), [])) none) (cond (Nat.beq pc 27) (some (.istore_n 1, 1, 0, 0, .null, [])) none)) (cond (Nat.beq pc 26) (some (.ior, 1, 0, 0, .null, [])) none))) (cond (Nat.ble 23 pc) (cond (Nat.ble 24 pc) (cond (Nat.ble 25 pc) (cond (Nat.beq pc 25) (some (.ishl, 1, 0, 0, .null, [])) none) (cond (Nat.beq pc 24) (some (.iload_n 2, 1, 0, 0, .null, [])) none)) (cond (Nat.beq pc 23) (some (.iconst 1, 1, 0, 0, .int 1, [])) none)) (cond (Nat.ble 19 pc) (cond (Nat.ble 22 pc) (cond (Nat.beq pc 22) (some (.iload_n 1, 1, 0, 0, .null, [])) none) (cond (Nat.beq pc 19) (some (.ifCond .eq 9, 3, 28, 0, .null, [])) none)) (cond (Nat.beq pc 16) (some (.getfield 54, 3, 0, 0, .null, [79])) none)))) (cond (Nat.ble 5 pc) (cond (Nat.ble 11 pc) (cond (Nat.ble 14 pc) (cond (Nat.ble 15 pc) (cond (Nat.beq pc 15) (some (.aaload, 1, 0, 0, .null, [])) none) (cond (Nat.beq pc 14) (some (.iload_n 2, 1, 0, 0, .null, [])) none)) (cond (Nat.beq pc 11) (some (.getfield 17, 3, 2, 1, .null, [106])) none)) (cond (Nat.ble 7 pc) (cond (Nat.ble 10 pc) (cond (Nat.beq pc 10) (some (.aload_n 0, 1, 0, 0, .null, [])) none) (cond (Nat.beq pc 7) (some (.if_icmp .ge 27, 3, 34, 0, .null, [])) none)) (cond (Nat.beq pc 5) (some (.bipush 10, 2, 0, 0, .int 10, [])) none))) (cond (Nat.ble 2 pc) (cond (Nat.ble 3 pc) (cond (Nat.ble 4 pc) (cond (Nat.beq pc 4) (some (.iload_n 2, 1, 0, 0, .null, [])) none) (cond (Nat.beq pc 3) (some (.istore_n 2, 1, 0, 0, .null, [])) none)) (cond (Nat.beq pc 2) (some (.iconst 0, 1, 0, 0, .int 0, [])) none)) (cond (Nat.ble 1 pc) (cond (Nat.beq pc 1) (some (.istore_n 1, 1, 0, 0, .null, [])) none) (cond (Nat.beq pc 0) (some (.iconst 0, 1, 0, 0, .int 0, [])) none))))
/-- java/lang/Integer.bitCount(I)I -/
def xI_43 : Nat → Option xEn := fun pc => cond (Nat.ble 27 pc) (cond (Nat.ble 40 pc) (cond (Nat.ble 46 pc) (cond (Nat.ble 49 pc) (cond (Nat.ble 51 pc) (cond (Nat.ble 52 pc) (cond (Nat.beq pc 52) (some (.ireturn, 1, 0, 0, .null, [])) none) (cond (Nat.beq pc 51) (some (.iand, 1, 0, 0, .null, [])) none)) (cond (Nat.beq pc 49) (some (.bipush 63, 2, 0, 0, .int 63, [])) none)) (cond (Nat.ble 47 pc) (cond (Nat.ble 48 pc) (cond (Nat.beq pc 48) (some (.iload_n 0, 1, 0, 0, .null, [])) none) (cond (Nat.beq pc 47) (some (.istore_n 0, 1, 0, 0, .null, [])) none)) (cond (Nat.beq pc 46) (some (.iadd, 1, 0, 0, .null, [])) none))) (cond (Nat.ble 42 pc) (cond (Nat.ble 43 pc) (cond (Nat.ble 45 pc) (cond (Nat.beq pc 45) (some (.iushr, 1, 0, 0, .null, [])) none) (cond (Nat.beq pc 43) (some (.bipush 16, 2, 0, 0, .int 16, [])) none)) (cond (Nat.beq pc 42) (some (.iload_n 0, 1, 0, 0, .null, [])) none)) (cond (Nat.ble 41 pc) (cond (Nat.beq pc 41) (some (.iload_n 0, 1, 0, 0, .null, [])) none) (cond (Nat.beq pc 40) (some (.istore_n 0, 1, 0, 0, .null, [])) none)))) (cond (Nat.ble 34 pc) (cond (Nat.ble 36 pc) (cond (Nat.ble 38 pc) (cond (Nat.ble 39 pc) (cond (Nat.beq pc 39) (some (.iadd, 1, 0, 0, .null, [])) none) (cond (Nat.beq pc 38) (some (.iushr, 1, 0, 0, .null, [])) none)) (cond (Nat.beq pc 36) (some (.bipush 8, 2, 0, 0, .int 8, [])) none)) (cond (Nat.ble 35 pc) (cond (Nat.beq pc 35) (some (.iload_n 0, 1, 0, 0, .null, [])) none) (cond (Nat.beq pc 34) (some (.iload_n 0, 1, 0, 0, .null, [])) none))) (cond (Nat.ble 29 pc) (cond (Nat.ble 32 pc) (cond (Nat.ble 33 pc) (cond (Nat.beq pc 33) (some (.istore_n 0, 1, 0, 0, .null, [])) none) (cond (Nat.beq pc 32) (some (.iand, 1, 0, 0, .null, [])) none)) (cond (Nat.beq pc 29) (some (.ldc_w 267, 3, 0, 0, .int 252645135, [516])) none)) (cond (Nat.ble 28 pc) (cond (Nat.beq pc 28) (some (.iadd, 1, 0, 0, .null, [])) none) (cond (Nat.beq pc 27) (some (.iushr, 1, 0, 0, .null, [])) none))))) (cond (Nat.ble 14 pc) (cond (Nat.ble 21 pc) (cond (Nat.ble 24 pc) (cond (Nat.ble 25 pc) (cond (Nat.ble 26 pc) (cond (Nat.beq pc 26) (some (.iconst 4, 1, 0, 0, .int 4, [])) none) (cond (Nat.beq pc 25) (some (.iload_n 0, 1, 0, 0, .null, [])) none)) (cond (Nat.beq pc 24) (some (.iload_n 0, 1, 0, 0, .null, [])) none)) (cond (Nat.ble 22 pc) (cond (Nat.ble 23 pc) (cond (Nat.beq pc 23) (some (.istore_n 0, 1, 0, 0, .null, [])) none) (cond (Nat.beq pc 22) (some (.iadd, 1, 0, 0, .null, [])) none)) (cond (Nat.beq pc 21) (some (.iand, 1, 0, 0, .null, [])) none))) (cond (Nat.ble 16 pc) (cond (Nat.ble 17 pc) (cond (Nat.ble 18 pc) (cond (Nat.beq pc 18) (some (.ldc_w 266, 3, 0, 0, .int 858993459, [515])) none) (cond (Nat.beq pc 17) (some (.iushr, 1, 0, 0, .null, [])) none)) (cond (Nat.beq pc 16) (some (.iconst 2, 1, 0, 0, .int 2, [])) none)) (cond (Nat.ble 15 pc) (cond (Nat.beq pc 15) (some (.iload_n 0, 1, 0, 0, .null, [])) none) (cond (Nat.beq pc 14) (some (.iand, 1, 0, 0, .null, [])) none)))) (cond (Nat.ble 7 pc) (cond (Nat.ble 9 pc) (cond (Nat.ble 10 pc) (cond (Nat.ble 11 pc) (cond (Nat.beq pc 11) (some (.ldc_w 266, 3, 0, 0, .int 858993459, [515])) none) (cond (Nat.beq pc 10) (some (.iload_n 0, 1, 0, 0, .null, [])) none)) (cond (Nat.beq pc 9) (some (.istore_n 0, 1, 0, 0, .null, [])) none)) (cond (Nat.ble 8 pc) (cond (Nat.beq pc 8) (some (.isub, 1, 0, 0, .null, [])) none) (cond (Nat.beq pc 7) (some (.iand, 1, 0, 0, .null, [])) none))) (cond (Nat.ble 2 pc) (cond (Nat.ble 3 pc) (cond (Nat.ble 4 pc) (cond (Nat.beq pc 4) (some (.ldc_w 265, 3, 0, 0, .int 1431655765, [514])) none) (cond (Nat.beq pc 3) (some (.iushr, 1, 0, 0, .null, [])) none)) (cond (Nat.beq pc 2) (some (.iconst 1, 1, 0, 0, .int 1, [])) none)) (cond (Nat.ble 1 pc) (cond (Nat.beq pc 1) (some (.iload_n 0, 1, 0, 0, .null, [])) none) (cond (Nat.beq pc 0) (some (.iload_n 0, 1, 0, 0, .null, [])) none)))))
/-- BraidHorns$Track.carrierCount()I -/
def xI_44 : Nat → Option xEn := fun pc => cond (Nat.ble 4 pc) (cond (Nat.ble 7 pc) (cond (Nat.beq pc 7) (some (.ireturn, 1, 0, 0, .null, [])) none) (cond (Nat.beq pc 4) (some (.invokestatic 84, 3, 43, 1, .null, [511, 512, 56])) none)) (cond (Nat.ble 1 pc) (cond (Nat.beq pc 1) (some (.invokevirtual 81, 3, 42, 0, .null, [197, 198, 199, 49])) none) (cond (Nat.beq pc 0) (some (.aload_n 0, 1, 0, 0, .null, [])) none))
/-- BraidHorns$Track.brokenEnds()I -/
def xI_45 : Nat → Option xEn := fun pc => cond (Nat.ble 19 pc) (cond (Nat.ble 31 pc) (cond (Nat.ble 40 pc) (cond (Nat.ble 43 pc) (cond (Nat.ble 44 pc) (cond (Nat.beq pc 44) (some (.ireturn, 1, 0, 0, .null, [])) none) (cond (Nat.beq pc 43) (some (.iload_n 1, 1, 0, 0, .null, [])) none)) (cond (Nat.beq pc 40) (some (.goto (-36), 3, 4, 0, .null, [])) none)) (cond (Nat.ble 34 pc) (cond (Nat.ble 37 pc) (cond (Nat.beq pc 37) (some (.iinc 2 1, 3, 0, 0, .int (1), [])) none) (cond (Nat.beq pc 34) (some (.iinc 1 1, 3, 0, 0, .int (1), [])) none)) (cond (Nat.beq pc 31) (some (.ifCond .eq 6, 3, 37, 0, .null, [])) none))) (cond (Nat.ble 26 pc) (cond (Nat.ble 27 pc) (cond (Nat.ble 28 pc) (cond (Nat.beq pc 28) (some (.getfield 89, 3, 0, 3, .null, [85])) none) (cond (Nat.beq pc 27) (some (.aaload, 1, 0, 0, .null, [])) none)) (cond (Nat.beq pc 26) (some (.iload_n 2, 1, 0, 0, .null, [])) none)) (cond (Nat.ble 22 pc) (cond (Nat.ble 23 pc) (cond (Nat.beq pc 23) (some (.getfield 17, 3, 2, 1, .null, [106])) none) (cond (Nat.beq pc 22) (some (.aload_n 0, 1, 0, 0, .null, [])) none)) (cond (Nat.beq pc 19) (some (.ifCond .eq 18, 3, 37, 0, .null, [])) none)))) (cond (Nat.ble 7 pc) (cond (Nat.ble 14 pc) (cond (Nat.ble 15 pc) (cond (Nat.ble 16 pc) (cond (Nat.beq pc 16) (some (.getfield 54, 3, 0, 0, .null, [79])) none) (cond (Nat.beq pc 15) (some (.aaload, 1, 0, 0, .null, [])) none)) (cond (Nat.beq pc 14) (some (.iload_n 2, 1, 0, 0, .null, [])) none)) (cond (Nat.ble 10 pc) (cond (Nat.ble 11 pc) (cond (Nat.beq pc 11) (some (.getfield 17, 3, 2, 1, .null, [106])) none) (cond (Nat.beq pc 10) (some (.aload_n 0, 1, 0, 0, .null, [])) none)) (cond (Nat.beq pc 7) (some (.if_icmp .ge 36, 3, 43, 0, .null, [])) none))) (cond (Nat.ble 3 pc) (cond (Nat.ble 4 pc) (cond (Nat.ble 5 pc) (cond (Nat.beq pc 5) (some (.bipush 10, 2, 0, 0, .int 10, [])) none) (cond (Nat.beq pc 4) (some (.iload_n 2, 1, 0, 0, .null, [])) none)) (cond (Nat.beq pc 3) (some (.istore_n 2, 1, 0, 0, .null, [])) none)) (cond (Nat.ble 1 pc) (cond (Nat.ble 2 pc) (cond (Nat.beq pc 2) (some (.iconst 0, 1, 0, 0, .int 0, [])) none) (cond (Nat.beq pc 1) (some (.istore_n 1, 1, 0, 0, .null, [])) none)) (cond (Nat.beq pc 0) (some (.iconst 0, 1, 0, 0, .int 0, [])) none))))
/-- BraidHorns$Track.allElls()I -/
def xI_46 : Nat → Option xEn := fun pc => cond (Nat.ble 19 pc) (cond (Nat.ble 29 pc) (cond (Nat.ble 34 pc) (cond (Nat.ble 40 pc) (cond (Nat.ble 41 pc) (cond (Nat.beq pc 41) (some (.ireturn, 1, 0, 0, .null, [])) none) (cond (Nat.beq pc 40) (some (.iload_n 1, 1, 0, 0, .null, [])) none)) (cond (Nat.ble 37 pc) (cond (Nat.beq pc 37) (some (.goto (-33), 3, 4, 0, .null, [])) none) (cond (Nat.beq pc 34) (some (.iinc 2 1, 3, 0, 0, .int (1), [])) none))) (cond (Nat.ble 32 pc) (cond (Nat.ble 33 pc) (cond (Nat.beq pc 33) (some (.istore_n 1, 1, 0, 0, .null, [])) none) (cond (Nat.beq pc 32) (some (.iadd, 1, 0, 0, .null, [])) none)) (cond (Nat.beq pc 29) (some (.getfield 92, 3, 0, 2, .null, [83])) none))) (cond (Nat.ble 24 pc) (cond (Nat.ble 27 pc) (cond (Nat.ble 28 pc) (cond (Nat.beq pc 28) (some (.aaload, 1, 0, 0, .null, [])) none) (cond (Nat.beq pc 27) (some (.iload_n 2, 1, 0, 0, .null, [])) none)) (cond (Nat.beq pc 24) (some (.getfield 17, 3, 2, 1, .null, [106])) none)) (cond (Nat.ble 22 pc) (cond (Nat.ble 23 pc) (cond (Nat.beq pc 23) (some (.aload_n 0, 1, 0, 0, .null, [])) none) (cond (Nat.beq pc 22) (some (.iload_n 1, 1, 0, 0, .null, [])) none)) (cond (Nat.beq pc 19) (some (.ifCond .eq 15, 3, 34, 0, .null, [])) none)))) (cond (Nat.ble 7 pc) (cond (Nat.ble 14 pc) (cond (Nat.ble 15 pc) (cond (Nat.ble 16 pc) (cond (Nat.beq pc 16) (some (.getfield 54, 3, 0, 0, .null, [79])) none) (cond (Nat.beq pc 15) (some (.aaload, 1, 0, 0, .null, [])) none)) (cond (Nat.beq pc 14) (some (.iload_n 2, 1, 0, 0, .null, [])) none)) (cond (Nat.ble 10 pc) (cond (Nat.ble 11 pc) (cond (Nat.beq pc 11) (some (.getfield 17, 3, 2, 1, .null, [106])) none) (cond (Nat.beq pc 10) (some (.aload_n 0, 1, 0, 0, .null, [])) none)) (cond (Nat.beq pc 7) (some (.if_icmp .ge 33, 3, 40, 0, .null, [])) none))) (cond (Nat.ble 3 pc) (cond (Nat.ble 4 pc) (cond (Nat.ble 5 pc) (cond (Nat.beq pc 5) (some (.bipush 10, 2, 0, 0, .int 10, [])) none) (cond (Nat.beq pc 4) (some (.iload_n 2, 1, 0, 0, .null, [])) none)) (cond (Nat.beq pc 3) (some (.istore_n 2, 1, 0, 0, .null, [])) none)) (cond (Nat.ble 1 pc) (cond (Nat.ble 2 pc) (cond (Nat.beq pc 2) (some (.iconst 0, 1, 0, 0, .int 0, [])) none) (cond (Nat.beq pc 1) (some (.istore_n 1, 1, 0, 0, .null, [])) none)) (cond (Nat.beq pc 0) (some (.iconst 0, 1, 0, 0, .int 0, [])) none))))
/-- BraidHorns$Track.leastElls()I -/
def xI_47 : Nat → Option xEn := fun pc => cond (Nat.ble 21 pc) (cond (Nat.ble 34 pc) (cond (Nat.ble 42 pc) (cond (Nat.ble 48 pc) (cond (Nat.ble 49 pc) (cond (Nat.beq pc 49) (some (.ireturn, 1, 0, 0, .null, [])) none) (cond (Nat.beq pc 48) (some (.iload_n 1, 1, 0, 0, .null, [])) none)) (cond (Nat.ble 45 pc) (cond (Nat.beq pc 45) (some (.goto (-35), 3, 10, 0, .null, [])) none) (cond (Nat.beq pc 42) (some (.iinc 2 1, 3, 0, 0, .int (1), [])) none))) (cond (Nat.ble 38 pc) (cond (Nat.ble 41 pc) (cond (Nat.beq pc 41) (some (.istore_n 1, 1, 0, 0, .null, [])) none) (cond (Nat.beq pc 38) (some (.invokestatic 98, 3, 1002, 0, .null, [267, 268, 55, 269])) none)) (cond (Nat.ble 35 pc) (cond (Nat.beq pc 35) (some (.getfield 92, 3, 0, 2, .null, [83])) none) (cond (Nat.beq pc 34) (some (.aaload, 1, 0, 0, .null, [])) none)))) (cond (Nat.ble 28 pc) (cond (Nat.ble 30 pc) (cond (Nat.ble 33 pc) (cond (Nat.beq pc 33) (some (.iload_n 2, 1, 0, 0, .null, [])) none) (cond (Nat.beq pc 30) (some (.getfield 17, 3, 2, 1, .null, [106])) none)) (cond (Nat.ble 29 pc) (cond (Nat.beq pc 29) (some (.aload_n 0, 1, 0, 0, .null, [])) none) (cond (Nat.beq pc 28) (some (.iload_n 1, 1, 0, 0, .null, [])) none))) (cond (Nat.ble 22 pc) (cond (Nat.ble 25 pc) (cond (Nat.beq pc 25) (some (.ifCond .eq 17, 3, 42, 0, .null, [])) none) (cond (Nat.beq pc 22) (some (.getfield 54, 3, 0, 0, .null, [79])) none)) (cond (Nat.beq pc 21) (some (.aaload, 1, 0, 0, .null, [])) none)))) (cond (Nat.ble 9 pc) (cond (Nat.ble 13 pc) (cond (Nat.ble 17 pc) (cond (Nat.ble 20 pc) (cond (Nat.beq pc 20) (some (.iload_n 2, 1, 0, 0, .null, [])) none) (cond (Nat.beq pc 17) (some (.getfield 17, 3, 2, 1, .null, [106])) none)) (cond (Nat.ble 16 pc) (cond (Nat.beq pc 16) (some (.aload_n 0, 1, 0, 0, .null, [])) none) (cond (Nat.beq pc 13) (some (.if_icmp .ge 35, 3, 48, 0, .null, [])) none))) (cond (Nat.ble 10 pc) (cond (Nat.ble 11 pc) (cond (Nat.beq pc 11) (some (.bipush 10, 2, 0, 0, .int 10, [])) none) (cond (Nat.beq pc 10) (some (.iload_n 2, 1, 0, 0, .null, [])) none)) (cond (Nat.beq pc 9) (some (.istore_n 2, 1, 0, 0, .null, [])) none))) (cond (Nat.ble 5 pc) (cond (Nat.ble 7 pc) (cond (Nat.ble 8 pc) (cond (Nat.beq pc 8) (some (.iconst 0, 1, 0, 0, .int 0, [])) none) (cond (Nat.beq pc 7) (some (.istore_n 1, 1, 0, 0, .null, [])) none)) (cond (Nat.ble 6 pc) (cond (Nat.beq pc 6) (some (.iadd, 1, 0, 0, .null, [])) none) (cond (Nat.beq pc 5) (some (.iconst 1, 1, 0, 0, .int 1, [])) none))) (cond (Nat.ble 3 pc) (cond (Nat.ble 4 pc) (cond (Nat.beq pc 4) (some (.iaload, 1, 0, 0, .null, [])) none) (cond (Nat.beq pc 3) (some (.iconst 2, 1, 0, 0, .int 2, [])) none)) (cond (Nat.beq pc 0) (some (.getstatic 95, 3, 2, 0, .null, [])) none))))
/-- BraidHorns$Track.hindrance()I -/
def xI_48 : Nat → Option xEn := fun pc => cond (Nat.ble 23 pc) (cond (Nat.ble 39 pc) (cond (Nat.ble 47 pc) (cond (Nat.ble 51 pc) (cond (Nat.ble 52 pc) (cond (Nat.beq pc 52) (some (.ireturn, 1, 0, 0, .null, [])) none) (cond (Nat.beq pc 51) (some (.iconst 4, 1, 0, 0, .int 4, [])) none)) (cond (Nat.ble 48 pc) (cond (Nat.beq pc 48) (some (.goto 4, 3, 52, 0, .null, [])) none) (cond (Nat.beq pc 47) (some (.iconst 0, 1, 0, 0, .int 0, [])) none))) (cond (Nat.ble 43 pc) (cond (Nat.ble 44 pc) (cond (Nat.beq pc 44) (some (.ifCond .ne 7, 3, 51, 0, .null, [])) none) (cond (Nat.beq pc 43) (some (.lcmp, 1, 0, 0, .null, [])) none)) (cond (Nat.ble 42 pc) (cond (Nat.beq pc 42) (some (.lconst 0, 1, 0, 0, .long 0, [])) none) (cond (Nat.beq pc 39) (some (.invokestatic 117, 3, 12, 2, .null, [279, 280, 54])) none)))) (cond (Nat.ble 31 pc) (cond (Nat.ble 35 pc) (cond (Nat.ble 36 pc) (cond (Nat.beq pc 36) (some (.invokevirtual 58, 3, 34, 0, .null, [217, 218, 219, 49])) none) (cond (Nat.beq pc 35) (some (.aload_n 0, 1, 0, 0, .null, [])) none)) (cond (Nat.ble 32 pc) (cond (Nat.beq pc 32) (some (.invokestatic 113, 3, 8, 1, .null, [270, 271, 54])) none) (cond (Nat.beq pc 31) (some (.lload_n 1, 1, 0, 0, .null, [])) none))) (cond (Nat.ble 29 pc) (cond (Nat.ble 30 pc) (cond (Nat.beq pc 30) (some (.ireturn, 1, 0, 0, .null, [])) none) (cond (Nat.beq pc 29) (some (.iconst 3, 1, 0, 0, .int 3, [])) none)) (cond (Nat.ble 26 pc) (cond (Nat.beq pc 26) (some (.ifCond .ne 5, 3, 31, 0, .null, [])) none) (cond (Nat.beq pc 23) (some (.invokevirtual 110, 3, 47, 0, .null, [263, 264, 265, 49])) none))))) (cond (Nat.ble 11 pc) (cond (Nat.ble 17 pc) (cond (Nat.ble 21 pc) (cond (Nat.ble 22 pc) (cond (Nat.beq pc 22) (some (.aload_n 0, 1, 0, 0, .null, [])) none) (cond (Nat.beq pc 21) (some (.ireturn, 1, 0, 0, .null, [])) none)) (cond (Nat.ble 20 pc) (cond (Nat.beq pc 20) (some (.iconst 2, 1, 0, 0, .int 2, [])) none) (cond (Nat.beq pc 17) (some (.ifCond .le 5, 3, 22, 0, .null, [])) none))) (cond (Nat.ble 13 pc) (cond (Nat.ble 14 pc) (cond (Nat.beq pc 14) (some (.invokevirtual 107, 3, 45, 0, .null, [259, 261, 2, 49])) none) (cond (Nat.beq pc 13) (some (.aload_n 0, 1, 0, 0, .null, [])) none)) (cond (Nat.ble 12 pc) (cond (Nat.beq pc 12) (some (.ireturn, 1, 0, 0, .null, [])) none) (cond (Nat.beq pc 11) (some (.iconst 1, 1, 0, 0, .int 1, [])) none)))) (cond (Nat.ble 5 pc) (cond (Nat.ble 7 pc) (cond (Nat.ble 8 pc) (cond (Nat.beq pc 8) (some (.ifCond .ne 5, 3, 13, 0, .null, [])) none) (cond (Nat.beq pc 7) (some (.lcmp, 1, 0, 0, .null, [])) none)) (cond (Nat.ble 6 pc) (cond (Nat.beq pc 6) (some (.lconst 0, 1, 0, 0, .long 0, [])) none) (cond (Nat.beq pc 5) (some (.lload_n 1, 1, 0, 0, .null, [])) none))) (cond (Nat.ble 1 pc) (cond (Nat.ble 4 pc) (cond (Nat.beq pc 4) (some (.lstore_n 1, 1, 0, 0, .null, [])) none) (cond (Nat.beq pc 1) (some (.invokevirtual 103, 3, 41, 0, .null, [221, 222, 223, 49])) none)) (cond (Nat.beq pc 0) (some (.aload_n 0, 1, 0, 0, .null, [])) none))))
/-- BraidHorns$Track.changeSetting(II)I -/
def xI_49 : Nat → Option xEn := fun pc => cond (Nat.ble 33 pc) (cond (Nat.ble 51 pc) (cond (Nat.ble 58 pc) (cond (Nat.ble 60 pc) (cond (Nat.ble 61 pc) (cond (Nat.ble 62 pc) (cond (Nat.beq pc 62) (some (.ireturn, 1, 0, 0, .null, [])) none) (cond (Nat.beq pc 61) (some (.iload_n 3, 1, 0, 0, .null, [])) none)) (cond (Nat.beq pc 60) (some (.iastore, 1, 0, 0, .null, [])) none)) (cond (Nat.ble 59 pc) (cond (Nat.beq pc 59) (some (.iload_n 2, 1, 0, 0, .null, [])) none) (cond (Nat.beq pc 58) (some (.iload_n 1, 1, 0, 0, .null, [])) none))) (cond (Nat.ble 53 pc) (cond (Nat.ble 54 pc) (cond (Nat.ble 55 pc) (cond (Nat.beq pc 55) (some (.getfield 9, 3, 2, 0, .null, [105])) none) (cond (Nat.beq pc 54) (some (.aload_n 0, 1, 0, 0, .null, [])) none)) (cond (Nat.beq pc 53) (some (.istore_n 3, 1, 0, 0, .null, [])) none)) (cond (Nat.ble 52 pc) (cond (Nat.beq pc 52) (some (.iaload, 1, 0, 0, .null, [])) none) (cond (Nat.beq pc 51) (some (.iload_n 1, 1, 0, 0, .null, [])) none)))) (cond (Nat.ble 41 pc) (cond (Nat.ble 46 pc) (cond (Nat.ble 47 pc) (cond (Nat.ble 48 pc) (cond (Nat.beq pc 48) (some (.getfield 9, 3, 2, 0, .null, [105])) none) (cond (Nat.beq pc 47) (some (.aload_n 0, 1, 0, 0, .null, [])) none)) (cond (Nat.beq pc 46) (some (.ireturn, 1, 0, 0, .null, [])) none)) (cond (Nat.ble 44 pc) (cond (Nat.beq pc 44) (some (.bipush (-5), 2, 0, 0, .int (-5), [])) none) (cond (Nat.beq pc 41) (some (.ifCond .eq 6, 3, 47, 0, .null, [])) none))) (cond (Nat.ble 37 pc) (cond (Nat.ble 38 pc) (cond (Nat.beq pc 38) (some (.invokevirtual 81, 3, 42, 0, .null, [197, 198, 199, 49])) none) (cond (Nat.beq pc 37) (some (.aload_n 0, 1, 0, 0, .null, [])) none)) (cond (Nat.ble 34 pc) (cond (Nat.beq pc 34) (some (.ifCond .ne 13, 3, 47, 0, .null, [])) none) (cond (Nat.beq pc 33) (some (.iload_n 1, 1, 0, 0, .null, [])) none))))) (cond (Nat.ble 16 pc) (cond (Nat.ble 25 pc) (cond (Nat.ble 27 pc) (cond (Nat.ble 30 pc) (cond (Nat.ble 32 pc) (cond (Nat.beq pc 32) (some (.ireturn, 1, 0, 0, .null, [])) none) (cond (Nat.beq pc 30) (some (.bipush (-2), 2, 0, 0, .int (-2), [])) none)) (cond (Nat.beq pc 27) (some (.if_icmp .le 6, 3, 33, 0, .null, [])) none)) (cond (Nat.ble 26 pc) (cond (Nat.beq pc 26) (some (.iaload, 1, 0, 0, .null, [])) none) (cond (Nat.beq pc 25) (some (.iload_n 1, 1, 0, 0, .null, [])) none))) (cond (Nat.ble 18 pc) (cond (Nat.ble 21 pc) (cond (Nat.ble 22 pc) (cond (Nat.beq pc 22) (some (.getstatic 95, 3, 2, 0, .null, [])) none) (cond (Nat.beq pc 21) (some (.iload_n 2, 1, 0, 0, .null, [])) none)) (cond (Nat.beq pc 18) (some (.if_icmp .lt 12, 3, 30, 0, .null, [])) none)) (cond (Nat.ble 17 pc) (cond (Nat.beq pc 17) (some (.iaload, 1, 0, 0, .null, [])) none) (cond (Nat.beq pc 16) (some (.iload_n 1, 1, 0, 0, .null, [])) none)))) (cond (Nat.ble 6 pc) (cond (Nat.ble 11 pc) (cond (Nat.ble 12 pc) (cond (Nat.ble 13 pc) (cond (Nat.beq pc 13) (some (.getstatic 121, 3, 1, 0, .null, [])) none) (cond (Nat.beq pc 12) (some (.iload_n 2, 1, 0, 0, .null, [])) none)) (cond (Nat.beq pc 11) (some (.ireturn, 1, 0, 0, .null, [])) none)) (cond (Nat.ble 9 pc) (cond (Nat.beq pc 9) (some (.bipush (-2), 2, 0, 0, .int (-2), [])) none) (cond (Nat.beq pc 6) (some (.if_icmp .le 6, 3, 12, 0, .null, [])) none))) (cond (Nat.ble 4 pc) (cond (Nat.ble 5 pc) (cond (Nat.beq pc 5) (some (.iconst 2, 1, 0, 0, .int 2, [])) none) (cond (Nat.beq pc 4) (some (.iload_n 1, 1, 0, 0, .null, [])) none)) (cond (Nat.ble 1 pc) (cond (Nat.beq pc 1) (some (.ifCond .lt 8, 3, 9, 0, .null, [])) none) (cond (Nat.beq pc 0) (some (.iload_n 1, 1, 0, 0, .null, [])) none)))))
/-- BraidHorns$Track.insert(II)I -/
def xI_50 : Nat → Option xEn := fun pc => cond (Nat.ble 48 pc) (cond (Nat.ble 73 pc) (cond (Nat.ble 84 pc) (cond (Nat.ble 90 pc) (cond (Nat.ble 96 pc) (cond (Nat.ble 98 pc) (cond (Nat.beq pc 98) (some (.ireturn, 1, 0, 0, .null, [])) none) (cond (Nat.beq pc 96) (some (.bipush (-4), 2, 0, 0, .int (-4), [])) none)) (cond (Nat.ble 93 pc) (cond (Nat.beq pc 93) (some (.goto (-58), 3, 35, 0, .null, [])) none) (cond (Nat.beq pc 90) (some (.iinc 4 1, 3, 0, 0, .int (1), [])) none))) (cond (Nat.ble 87 pc) (cond (Nat.ble 89 pc) (cond (Nat.beq pc 89) (some (.ireturn, 1, 0, 0, .null, [])) none) (cond (Nat.beq pc 87) (some (.iload 4, 2, 0, 0, .null, [])) none)) (cond (Nat.beq pc 84) (some (.putfield 45, 3, 2, 6, .null, [112])) none))) (cond (Nat.ble 78 pc) (cond (Nat.ble 82 pc) (cond (Nat.ble 83 pc) (cond (Nat.beq pc 83) (some (.iadd, 1, 0, 0, .null, [])) none) (cond (Nat.beq pc 82) (some (.iaload, 1, 0, 0, .null, [])) none)) (cond (Nat.ble 81 pc) (cond (Nat.beq pc 81) (some (.iconst 2, 1, 0, 0, .int 2, [])) none) (cond (Nat.beq pc 78) (some (.getfield 9, 3, 2, 0, .null, [105])) none))) (cond (Nat.ble 74 pc) (cond (Nat.ble 77 pc) (cond (Nat.beq pc 77) (some (.aload_n 0, 1, 0, 0, .null, [])) none) (cond (Nat.beq pc 74) (some (.getfield 45, 3, 2, 6, .null, [112])) none)) (cond (Nat.beq pc 73) (some (.dup, 1, 0, 0, .null, [])) none)))) (cond (Nat.ble 62 pc) (cond (Nat.ble 67 pc) (cond (Nat.ble 69 pc) (cond (Nat.ble 72 pc) (cond (Nat.beq pc 72) (some (.aload_n 0, 1, 0, 0, .null, [])) none) (cond (Nat.beq pc 69) (some (.invokevirtual 131, 3, 1, 2, .null, [231, 232, 233, 50])) none)) (cond (Nat.ble 68 pc) (cond (Nat.beq pc 68) (some (.iaload, 1, 0, 0, .null, [])) none) (cond (Nat.beq pc 67) (some (.iconst 2, 1, 0, 0, .int 2, [])) none))) (cond (Nat.ble 63 pc) (cond (Nat.ble 64 pc) (cond (Nat.beq pc 64) (some (.getfield 9, 3, 2, 0, .null, [105])) none) (cond (Nat.beq pc 63) (some (.aload_n 0, 1, 0, 0, .null, [])) none)) (cond (Nat.beq pc 62) (some (.iload_n 3, 1, 0, 0, .null, [])) none))) (cond (Nat.ble 55 pc) (cond (Nat.ble 59 pc) (cond (Nat.ble 61 pc) (cond (Nat.beq pc 61) (some (.aaload, 1, 0, 0, .null, [])) none) (cond (Nat.beq pc 59) (some (.iload 4, 2, 0, 0, .null, [])) none)) (cond (Nat.ble 56 pc) (cond (Nat.beq pc 56) (some (.getfield 17, 3, 2, 1, .null, [106])) none) (cond (Nat.beq pc 55) (some (.aload_n 0, 1, 0, 0, .null, [])) none))) (cond (Nat.ble 49 pc) (cond (Nat.ble 52 pc) (cond (Nat.beq pc 52) (some (.ifCond .ne 38, 3, 90, 0, .null, [])) none) (cond (Nat.beq pc 49) (some (.getfield 54, 3, 0, 0, .null, [79])) none)) (cond (Nat.beq pc 48) (some (.aaload, 1, 0, 0, .null, [])) none))))) (cond (Nat.ble 19 pc) (cond (Nat.ble 33 pc) (cond (Nat.ble 39 pc) (cond (Nat.ble 43 pc) (cond (Nat.ble 46 pc) (cond (Nat.beq pc 46) (some (.iload 4, 2, 0, 0, .null, [])) none) (cond (Nat.beq pc 43) (some (.getfield 17, 3, 2, 1, .null, [106])) none)) (cond (Nat.ble 42 pc) (cond (Nat.beq pc 42) (some (.aload_n 0, 1, 0, 0, .null, [])) none) (cond (Nat.beq pc 39) (some (.if_icmp .ge 57, 3, 96, 0, .null, [])) none))) (cond (Nat.ble 35 pc) (cond (Nat.ble 37 pc) (cond (Nat.beq pc 37) (some (.bipush 10, 2, 0, 0, .int 10, [])) none) (cond (Nat.beq pc 35) (some (.iload 4, 2, 0, 0, .null, [])) none)) (cond (Nat.beq pc 33) (some (.istore 4, 2, 0, 0, .null, [])) none))) (cond (Nat.ble 26 pc) (cond (Nat.ble 31 pc) (cond (Nat.ble 32 pc) (cond (Nat.beq pc 32) (some (.iconst 0, 1, 0, 0, .int 0, [])) none) (cond (Nat.beq pc 31) (some (.ireturn, 1, 0, 0, .null, [])) none)) (cond (Nat.ble 29 pc) (cond (Nat.beq pc 29) (some (.bipush (-5), 2, 0, 0, .int (-5), [])) none) (cond (Nat.beq pc 26) (some (.ifCond .ne 6, 3, 32, 0, .null, [])) none))) (cond (Nat.ble 22 pc) (cond (Nat.ble 23 pc) (cond (Nat.beq pc 23) (some (.invokestatic 127, 3, 17, 3, .null, [225, 226, 54])) none) (cond (Nat.beq pc 22) (some (.iload_n 3, 1, 0, 0, .null, [])) none)) (cond (Nat.beq pc 19) (some (.invokevirtual 58, 3, 34, 0, .null, [217, 218, 219, 49])) none)))) (cond (Nat.ble 8 pc) (cond (Nat.ble 13 pc) (cond (Nat.ble 15 pc) (cond (Nat.ble 18 pc) (cond (Nat.beq pc 18) (some (.aload_n 0, 1, 0, 0, .null, [])) none) (cond (Nat.beq pc 15) (some (.invokevirtual 103, 3, 41, 0, .null, [221, 222, 223, 49])) none)) (cond (Nat.ble 14 pc) (cond (Nat.beq pc 14) (some (.aload_n 0, 1, 0, 0, .null, [])) none) (cond (Nat.beq pc 13) (some (.ireturn, 1, 0, 0, .null, [])) none))) (cond (Nat.ble 9 pc) (cond (Nat.ble 12 pc) (cond (Nat.beq pc 12) (some (.iconst (-1), 1, 0, 0, .int (-1), [])) none) (cond (Nat.beq pc 9) (some (.if_icmp .ne 5, 3, 14, 0, .null, [])) none)) (cond (Nat.beq pc 8) (some (.iconst (-1), 1, 0, 0, .int (-1), [])) none))) (cond (Nat.ble 3 pc) (cond (Nat.ble 6 pc) (cond (Nat.ble 7 pc) (cond (Nat.beq pc 7) (some (.iload_n 3, 1, 0, 0, .null, [])) none) (cond (Nat.beq pc 6) (some (.istore_n 3, 1, 0, 0, .null, [])) none)) (cond (Nat.beq pc 3) (some (.invokevirtual 124, 3, 36, 2, .null, [213, 214, 215, 49])) none)) (cond (Nat.ble 1 pc) (cond (Nat.ble 2 pc) (cond (Nat.beq pc 2) (some (.iload_n 2, 1, 0, 0, .null, [])) none) (cond (Nat.beq pc 1) (some (.iload_n 1, 1, 0, 0, .null, [])) none)) (cond (Nat.beq pc 0) (some (.aload_n 0, 1, 0, 0, .null, [])) none)))))
/-- BraidHorns$Track.remove(I)I -/
def xI_51 : Nat → Option xEn := fun pc => cond (Nat.ble 21 pc) (cond (Nat.ble 31 pc) (cond (Nat.ble 36 pc) (cond (Nat.ble 40 pc) (cond (Nat.ble 41 pc) (cond (Nat.beq pc 41) (some (.ireturn, 1, 0, 0, .null, [])) none) (cond (Nat.beq pc 40) (some (.iload_n 2, 1, 0, 0, .null, [])) none)) (cond (Nat.ble 37 pc) (cond (Nat.beq pc 37) (some (.putfield 42, 3, 2, 5, .null, [111])) none) (cond (Nat.beq pc 36) (some (.iadd, 1, 0, 0, .null, [])) none))) (cond (Nat.ble 32 pc) (cond (Nat.ble 35 pc) (cond (Nat.beq pc 35) (some (.iload_n 2, 1, 0, 0, .null, [])) none) (cond (Nat.beq pc 32) (some (.getfield 42, 3, 2, 5, .null, [111])) none)) (cond (Nat.beq pc 31) (some (.dup, 1, 0, 0, .null, [])) none))) (cond (Nat.ble 26 pc) (cond (Nat.ble 27 pc) (cond (Nat.ble 30 pc) (cond (Nat.beq pc 30) (some (.aload_n 0, 1, 0, 0, .null, [])) none) (cond (Nat.beq pc 27) (some (.putfield 54, 3, 0, 0, .null, [79])) none)) (cond (Nat.beq pc 26) (some (.iconst 0, 1, 0, 0, .int 0, [])) none)) (cond (Nat.ble 24 pc) (cond (Nat.ble 25 pc) (cond (Nat.beq pc 25) (some (.aaload, 1, 0, 0, .null, [])) none) (cond (Nat.beq pc 24) (some (.iload_n 1, 1, 0, 0, .null, [])) none)) (cond (Nat.beq pc 21) (some (.getfield 17, 3, 2, 1, .null, [106])) none)))) (cond (Nat.ble 10 pc) (cond (Nat.ble 15 pc) (cond (Nat.ble 19 pc) (cond (Nat.ble 20 pc) (cond (Nat.beq pc 20) (some (.aload_n 0, 1, 0, 0, .null, [])) none) (cond (Nat.beq pc 19) (some (.istore_n 2, 1, 0, 0, .null, [])) none)) (cond (Nat.ble 16 pc) (cond (Nat.beq pc 16) (some (.getfield 92, 3, 0, 2, .null, [83])) none) (cond (Nat.beq pc 15) (some (.aaload, 1, 0, 0, .null, [])) none))) (cond (Nat.ble 11 pc) (cond (Nat.ble 14 pc) (cond (Nat.beq pc 14) (some (.iload_n 1, 1, 0, 0, .null, [])) none) (cond (Nat.beq pc 11) (some (.getfield 17, 3, 2, 1, .null, [106])) none)) (cond (Nat.beq pc 10) (some (.aload_n 0, 1, 0, 0, .null, [])) none))) (cond (Nat.ble 5 pc) (cond (Nat.ble 8 pc) (cond (Nat.ble 9 pc) (cond (Nat.beq pc 9) (some (.ireturn, 1, 0, 0, .null, [])) none) (cond (Nat.beq pc 8) (some (.iconst (-1), 1, 0, 0, .int (-1), [])) none)) (cond (Nat.beq pc 5) (some (.ifCond .ne 5, 3, 10, 0, .null, [])) none)) (cond (Nat.ble 1 pc) (cond (Nat.ble 2 pc) (cond (Nat.beq pc 2) (some (.invokevirtual 135, 3, 35, 1, .null, [243, 244, 245, 49])) none) (cond (Nat.beq pc 1) (some (.iload_n 1, 1, 0, 0, .null, [])) none)) (cond (Nat.beq pc 0) (some (.aload_n 0, 1, 0, 0, .null, [])) none))))
/-- BraidHorns$Track.doStep()V -/
def xI_52 : Nat → Option xEn := fun pc => cond (Nat.ble 38 pc) (cond (Nat.ble 58 pc) (cond (Nat.ble 65 pc) (cond (Nat.ble 70 pc) (cond (Nat.ble 71 pc) (cond (Nat.ble 74 pc) (cond (Nat.beq pc 74) (some (.return_, 1, 0, 0, .null, [])) none) (cond (Nat.beq pc 71) (some (.putfield 32, 3, 2, 2, .null, [108])) none)) (cond (Nat.beq pc 70) (some (.iadd, 1, 0, 0, .null, [])) none)) (cond (Nat.ble 66 pc) (cond (Nat.ble 69 pc) (cond (Nat.beq pc 69) (some (.iconst 1, 1, 0, 0, .int 1, [])) none) (cond (Nat.beq pc 66) (some (.getfield 32, 3, 2, 2, .null, [108])) none)) (cond (Nat.beq pc 65) (some (.dup, 1, 0, 0, .null, [])) none))) (cond (Nat.ble 60 pc) (cond (Nat.ble 61 pc) (cond (Nat.ble 64 pc) (cond (Nat.beq pc 64) (some (.aload_n 0, 1, 0, 0, .null, [])) none) (cond (Nat.beq pc 61) (some (.putfield 36, 3, 2, 3, .null, [109])) none)) (cond (Nat.beq pc 60) (some (.iadd, 1, 0, 0, .null, [])) none)) (cond (Nat.ble 59 pc) (cond (Nat.beq pc 59) (some (.iaload, 1, 0, 0, .null, [])) none) (cond (Nat.beq pc 58) (some (.iconst 1, 1, 0, 0, .int 1, [])) none)))) (cond (Nat.ble 49 pc) (cond (Nat.ble 51 pc) (cond (Nat.ble 54 pc) (cond (Nat.ble 55 pc) (cond (Nat.beq pc 55) (some (.getfield 9, 3, 2, 0, .null, [105])) none) (cond (Nat.beq pc 54) (some (.aload_n 0, 1, 0, 0, .null, [])) none)) (cond (Nat.beq pc 51) (some (.getfield 36, 3, 2, 3, .null, [109])) none)) (cond (Nat.ble 50 pc) (cond (Nat.beq pc 50) (some (.dup, 1, 0, 0, .null, [])) none) (cond (Nat.beq pc 49) (some (.aload_n 0, 1, 0, 0, .null, [])) none))) (cond (Nat.ble 40 pc) (cond (Nat.ble 43 pc) (cond (Nat.ble 46 pc) (cond (Nat.beq pc 46) (some (.goto (-44), 3, 2, 0, .null, [])) none) (cond (Nat.beq pc 43) (some (.iinc 1 1, 3, 0, 0, .int (1), [])) none)) (cond (Nat.beq pc 40) (some (.putfield 48, 3, 2, 7, .null, [113])) none)) (cond (Nat.ble 39 pc) (cond (Nat.beq pc 39) (some (.iadd, 1, 0, 0, .null, [])) none) (cond (Nat.beq pc 38) (some (.iconst 1, 1, 0, 0, .int 1, [])) none))))) (cond (Nat.ble 17 pc) (cond (Nat.ble 26 pc) (cond (Nat.ble 33 pc) (cond (Nat.ble 34 pc) (cond (Nat.ble 35 pc) (cond (Nat.beq pc 35) (some (.getfield 48, 3, 2, 7, .null, [113])) none) (cond (Nat.beq pc 34) (some (.dup, 1, 0, 0, .null, [])) none)) (cond (Nat.beq pc 33) (some (.aload_n 0, 1, 0, 0, .null, [])) none)) (cond (Nat.ble 27 pc) (cond (Nat.ble 30 pc) (cond (Nat.beq pc 30) (some (.invokevirtual 145, 3, 5, 1, .null, [290, 291, 292, 50])) none) (cond (Nat.beq pc 27) (some (.invokevirtual 58, 3, 34, 0, .null, [217, 218, 219, 49])) none)) (cond (Nat.beq pc 26) (some (.aload_n 0, 1, 0, 0, .null, [])) none))) (cond (Nat.ble 21 pc) (cond (Nat.ble 24 pc) (cond (Nat.ble 25 pc) (cond (Nat.beq pc 25) (some (.aaload, 1, 0, 0, .null, [])) none) (cond (Nat.beq pc 24) (some (.iload_n 1, 1, 0, 0, .null, [])) none)) (cond (Nat.beq pc 21) (some (.getfield 17, 3, 2, 1, .null, [106])) none)) (cond (Nat.ble 20 pc) (cond (Nat.beq pc 20) (some (.aload_n 0, 1, 0, 0, .null, [])) none) (cond (Nat.beq pc 17) (some (.ifCond .eq 26, 3, 43, 0, .null, [])) none)))) (cond (Nat.ble 8 pc) (cond (Nat.ble 12 pc) (cond (Nat.ble 13 pc) (cond (Nat.ble 14 pc) (cond (Nat.beq pc 14) (some (.getfield 54, 3, 0, 0, .null, [79])) none) (cond (Nat.beq pc 13) (some (.aaload, 1, 0, 0, .null, [])) none)) (cond (Nat.beq pc 12) (some (.iload_n 1, 1, 0, 0, .null, [])) none)) (cond (Nat.ble 9 pc) (cond (Nat.beq pc 9) (some (.getfield 17, 3, 2, 1, .null, [106])) none) (cond (Nat.beq pc 8) (some (.aload_n 0, 1, 0, 0, .null, [])) none))) (cond (Nat.ble 2 pc) (cond (Nat.ble 3 pc) (cond (Nat.ble 5 pc) (cond (Nat.beq pc 5) (some (.if_icmp .ge 44, 3, 49, 0, .null, [])) none) (cond (Nat.beq pc 3) (some (.bipush 10, 2, 0, 0, .int 10, [])) none)) (cond (Nat.beq pc 2) (some (.iload_n 1, 1, 0, 0, .null, [])) none)) (cond (Nat.ble 1 pc) (cond (Nat.beq pc 1) (some (.istore_n 1, 1, 0, 0, .null, [])) none) (cond (Nat.beq pc 0) (some (.iconst 0, 1, 0, 0, .int 0, [])) none)))))
/-- BraidHorns$Track.advance(I)I -/
def xI_53 : Nat → Option xEn := fun pc => cond (Nat.ble 31 pc) (cond (Nat.ble 48 pc) (cond (Nat.ble 54 pc) (cond (Nat.ble 60 pc) (cond (Nat.ble 63 pc) (cond (Nat.ble 64 pc) (cond (Nat.beq pc 64) (some (.ireturn, 1, 0, 0, .null, [])) none) (cond (Nat.beq pc 63) (some (.iload_n 1, 1, 0, 0, .null, [])) none)) (cond (Nat.beq pc 60) (some (.goto (-29), 3, 31, 0, .null, [])) none)) (cond (Nat.ble 57 pc) (cond (Nat.beq pc 57) (some (.iinc 2 1, 3, 0, 0, .int (1), [])) none) (cond (Nat.beq pc 54) (some (.invokevirtual 142, 3, 52, 0, .null, [286, 288, 3, 49])) none))) (cond (Nat.ble 52 pc) (cond (Nat.ble 53 pc) (cond (Nat.beq pc 53) (some (.aload_n 0, 1, 0, 0, .null, [])) none) (cond (Nat.beq pc 52) (some (.ireturn, 1, 0, 0, .null, [])) none)) (cond (Nat.ble 51 pc) (cond (Nat.beq pc 51) (some (.iload_n 2, 1, 0, 0, .null, [])) none) (cond (Nat.beq pc 48) (some (.ifCond .eq 5, 3, 53, 0, .null, [])) none)))) (cond (Nat.ble 37 pc) (cond (Nat.ble 41 pc) (cond (Nat.ble 44 pc) (cond (Nat.ble 45 pc) (cond (Nat.beq pc 45) (some (.getfield 51, 3, 2, 8, .null, [114])) none) (cond (Nat.beq pc 44) (some (.aload_n 0, 1, 0, 0, .null, [])) none)) (cond (Nat.beq pc 41) (some (.putfield 51, 3, 2, 8, .null, [114])) none)) (cond (Nat.ble 38 pc) (cond (Nat.beq pc 38) (some (.invokevirtual 139, 3, 48, 0, .null, [255, 256, 257, 49])) none) (cond (Nat.beq pc 37) (some (.aload_n 0, 1, 0, 0, .null, [])) none))) (cond (Nat.ble 33 pc) (cond (Nat.ble 36 pc) (cond (Nat.beq pc 36) (some (.aload_n 0, 1, 0, 0, .null, [])) none) (cond (Nat.beq pc 33) (some (.if_icmp .ge 30, 3, 63, 0, .null, [])) none)) (cond (Nat.ble 32 pc) (cond (Nat.beq pc 32) (some (.iload_n 1, 1, 0, 0, .null, [])) none) (cond (Nat.beq pc 31) (some (.iload_n 2, 1, 0, 0, .null, [])) none))))) (cond (Nat.ble 15 pc) (cond (Nat.ble 23 pc) (cond (Nat.ble 28 pc) (cond (Nat.ble 29 pc) (cond (Nat.ble 30 pc) (cond (Nat.beq pc 30) (some (.istore_n 2, 1, 0, 0, .null, [])) none) (cond (Nat.beq pc 29) (some (.iconst 0, 1, 0, 0, .int 0, [])) none)) (cond (Nat.beq pc 28) (some (.ireturn, 1, 0, 0, .null, [])) none)) (cond (Nat.ble 26 pc) (cond (Nat.beq pc 26) (some (.bipush (-5), 2, 0, 0, .int (-5), [])) none) (cond (Nat.beq pc 23) (some (.if_icmp .le 6, 3, 29, 0, .null, [])) none))) (cond (Nat.ble 19 pc) (cond (Nat.ble 20 pc) (cond (Nat.beq pc 20) (some (.sipush 9999, 3, 0, 0, .int 9999, [])) none) (cond (Nat.beq pc 19) (some (.iadd, 1, 0, 0, .null, [])) none)) (cond (Nat.ble 18 pc) (cond (Nat.beq pc 18) (some (.iload_n 1, 1, 0, 0, .null, [])) none) (cond (Nat.beq pc 15) (some (.getfield 32, 3, 2, 2, .null, [108])) none)))) (cond (Nat.ble 6 pc) (cond (Nat.ble 11 pc) (cond (Nat.ble 13 pc) (cond (Nat.ble 14 pc) (cond (Nat.beq pc 14) (some (.aload_n 0, 1, 0, 0, .null, [])) none) (cond (Nat.beq pc 13) (some (.ireturn, 1, 0, 0, .null, [])) none)) (cond (Nat.beq pc 11) (some (.bipush (-2), 2, 0, 0, .int (-2), [])) none)) (cond (Nat.ble 8 pc) (cond (Nat.beq pc 8) (some (.if_icmp .le 6, 3, 14, 0, .null, [])) none) (cond (Nat.beq pc 6) (some (.bipush 99, 2, 0, 0, .int 99, [])) none))) (cond (Nat.ble 2 pc) (cond (Nat.ble 5 pc) (cond (Nat.beq pc 5) (some (.iload_n 1, 1, 0, 0, .null, [])) none) (cond (Nat.beq pc 2) (some (.if_icmp .lt 9, 3, 11, 0, .null, [])) none)) (cond (Nat.ble 1 pc) (cond (Nat.beq pc 1) (some (.iconst 1, 1, 0, 0, .int 1, [])) none) (cond (Nat.beq pc 0) (some (.iload_n 1, 1, 0, 0, .null, [])) none)))))
/-- BraidHorns$Track.breakEnd(I)I -/
def xI_54 : Nat → Option xEn := fun pc => cond (Nat.ble 19 pc) (cond (Nat.ble 30 pc) (cond (Nat.ble 35 pc) (cond (Nat.ble 36 pc) (cond (Nat.ble 39 pc) (cond (Nat.beq pc 39) (some (.ireturn, 1, 0, 0, .null, [])) none) (cond (Nat.beq pc 36) (some (.invokevirtual 107, 3, 45, 0, .null, [259, 261, 2, 49])) none)) (cond (Nat.beq pc 35) (some (.aload_n 0, 1, 0, 0, .null, [])) none)) (cond (Nat.ble 31 pc) (cond (Nat.ble 32 pc) (cond (Nat.beq pc 32) (some (.putfield 89, 3, 0, 3, .null, [85])) none) (cond (Nat.beq pc 31) (some (.iconst 1, 1, 0, 0, .int 1, [])) none)) (cond (Nat.beq pc 30) (some (.aaload, 1, 0, 0, .null, [])) none))) (cond (Nat.ble 25 pc) (cond (Nat.ble 26 pc) (cond (Nat.ble 29 pc) (cond (Nat.beq pc 29) (some (.iload_n 1, 1, 0, 0, .null, [])) none) (cond (Nat.beq pc 26) (some (.getfield 17, 3, 2, 1, .null, [106])) none)) (cond (Nat.beq pc 25) (some (.aload_n 0, 1, 0, 0, .null, [])) none)) (cond (Nat.ble 22 pc) (cond (Nat.ble 24 pc) (cond (Nat.beq pc 24) (some (.ireturn, 1, 0, 0, .null, [])) none) (cond (Nat.beq pc 22) (some (.bipush (-5), 2, 0, 0, .int (-5), [])) none)) (cond (Nat.beq pc 19) (some (.ifCond .eq 6, 3, 25, 0, .null, [])) none)))) (cond (Nat.ble 9 pc) (cond (Nat.ble 14 pc) (cond (Nat.ble 15 pc) (cond (Nat.ble 16 pc) (cond (Nat.beq pc 16) (some (.getfield 89, 3, 0, 3, .null, [85])) none) (cond (Nat.beq pc 15) (some (.aaload, 1, 0, 0, .null, [])) none)) (cond (Nat.beq pc 14) (some (.iload_n 1, 1, 0, 0, .null, [])) none)) (cond (Nat.ble 10 pc) (cond (Nat.ble 11 pc) (cond (Nat.beq pc 11) (some (.getfield 17, 3, 2, 1, .null, [106])) none) (cond (Nat.beq pc 10) (some (.aload_n 0, 1, 0, 0, .null, [])) none)) (cond (Nat.beq pc 9) (some (.ireturn, 1, 0, 0, .null, [])) none))) (cond (Nat.ble 2 pc) (cond (Nat.ble 5 pc) (cond (Nat.ble 8 pc) (cond (Nat.beq pc 8) (some (.iconst (-1), 1, 0, 0, .int (-1), [])) none) (cond (Nat.beq pc 5) (some (.ifCond .ne 5, 3, 10, 0, .null, [])) none)) (cond (Nat.beq pc 2) (some (.invokevirtual 135, 3, 35, 1, .null, [243, 244, 245, 49])) none)) (cond (Nat.ble 1 pc) (cond (Nat.beq pc 1) (some (.iload_n 1, 1, 0, 0, .null, [])) none) (cond (Nat.beq pc 0) (some (.aload_n 0, 1, 0, 0, .null, [])) none))))
/-- BraidHorns$Track.mendEnd(I)I -/
def xI_55 : Nat → Option xEn := fun pc => cond (Nat.ble 25 pc) (cond (Nat.ble 36 pc) (cond (Nat.ble 42 pc) (cond (Nat.ble 46 pc) (cond (Nat.ble 49 pc) (cond (Nat.beq pc 49) (some (.ireturn, 1, 0, 0, .null, [])) none) (cond (Nat.beq pc 46) (some (.getfield 39, 3, 2, 4, .null, [110])) none)) (cond (Nat.ble 45 pc) (cond (Nat.beq pc 45) (some (.aload_n 0, 1, 0, 0, .null, [])) none) (cond (Nat.beq pc 42) (some (.putfield 39, 3, 2, 4, .null, [110])) none))) (cond (Nat.ble 40 pc) (cond (Nat.ble 41 pc) (cond (Nat.beq pc 41) (some (.iadd, 1, 0, 0, .null, [])) none) (cond (Nat.beq pc 40) (some (.iconst 1, 1, 0, 0, .int 1, [])) none)) (cond (Nat.ble 37 pc) (cond (Nat.beq pc 37) (some (.getfield 39, 3, 2, 4, .null, [110])) none) (cond (Nat.beq pc 36) (some (.dup, 1, 0, 0, .null, [])) none)))) (cond (Nat.ble 30 pc) (cond (Nat.ble 32 pc) (cond (Nat.ble 35 pc) (cond (Nat.beq pc 35) (some (.aload_n 0, 1, 0, 0, .null, [])) none) (cond (Nat.beq pc 32) (some (.putfield 89, 3, 0, 3, .null, [85])) none)) (cond (Nat.ble 31 pc) (cond (Nat.beq pc 31) (some (.iconst 0, 1, 0, 0, .int 0, [])) none) (cond (Nat.beq pc 30) (some (.aaload, 1, 0, 0, .null, [])) none))) (cond (Nat.ble 26 pc) (cond (Nat.ble 29 pc) (cond (Nat.beq pc 29) (some (.iload_n 1, 1, 0, 0, .null, [])) none) (cond (Nat.beq pc 26) (some (.getfield 17, 3, 2, 1, .null, [106])) none)) (cond (Nat.beq pc 25) (some (.aload_n 0, 1, 0, 0, .null, [])) none)))) (cond (Nat.ble 11 pc) (cond (Nat.ble 16 pc) (cond (Nat.ble 22 pc) (cond (Nat.ble 24 pc) (cond (Nat.beq pc 24) (some (.ireturn, 1, 0, 0, .null, [])) none) (cond (Nat.beq pc 22) (some (.bipush (-5), 2, 0, 0, .int (-5), [])) none)) (cond (Nat.ble 19 pc) (cond (Nat.beq pc 19) (some (.ifCond .ne 6, 3, 25, 0, .null, [])) none) (cond (Nat.beq pc 16) (some (.getfield 89, 3, 0, 3, .null, [85])) none))) (cond (Nat.ble 14 pc) (cond (Nat.ble 15 pc) (cond (Nat.beq pc 15) (some (.aaload, 1, 0, 0, .null, [])) none) (cond (Nat.beq pc 14) (some (.iload_n 1, 1, 0, 0, .null, [])) none)) (cond (Nat.beq pc 11) (some (.getfield 17, 3, 2, 1, .null, [106])) none))) (cond (Nat.ble 5 pc) (cond (Nat.ble 9 pc) (cond (Nat.ble 10 pc) (cond (Nat.beq pc 10) (some (.aload_n 0, 1, 0, 0, .null, [])) none) (cond (Nat.beq pc 9) (some (.ireturn, 1, 0, 0, .null, [])) none)) (cond (Nat.ble 8 pc) (cond (Nat.beq pc 8) (some (.iconst (-1), 1, 0, 0, .int (-1), [])) none) (cond (Nat.beq pc 5) (some (.ifCond .ne 5, 3, 10, 0, .null, [])) none))) (cond (Nat.ble 1 pc) (cond (Nat.ble 2 pc) (cond (Nat.beq pc 2) (some (.invokevirtual 135, 3, 35, 1, .null, [243, 244, 245, 49])) none) (cond (Nat.beq pc 1) (some (.iload_n 1, 1, 0, 0, .null, [])) none)) (cond (Nat.beq pc 0) (some (.aload_n 0, 1, 0, 0, .null, [])) none))))
/-- BraidHorns$Track.changeBobbin(I)I -/
def xI_56 : Nat → Option xEn := fun pc => cond (Nat.ble 31 pc) (cond (Nat.ble 46 pc) (cond (Nat.ble 55 pc) (cond (Nat.ble 57 pc) (cond (Nat.ble 60 pc) (cond (Nat.ble 61 pc) (cond (Nat.beq pc 61) (some (.ireturn, 1, 0, 0, .null, [])) none) (cond (Nat.beq pc 60) (some (.iload_n 2, 1, 0, 0, .null, [])) none)) (cond (Nat.beq pc 57) (some (.putfield 45, 3, 2, 6, .null, [112])) none)) (cond (Nat.ble 56 pc) (cond (Nat.beq pc 56) (some (.iadd, 1, 0, 0, .null, [])) none) (cond (Nat.beq pc 55) (some (.iaload, 1, 0, 0, .null, [])) none))) (cond (Nat.ble 50 pc) (cond (Nat.ble 51 pc) (cond (Nat.ble 54 pc) (cond (Nat.beq pc 54) (some (.iconst 2, 1, 0, 0, .int 2, [])) none) (cond (Nat.beq pc 51) (some (.getfield 9, 3, 2, 0, .null, [105])) none)) (cond (Nat.beq pc 50) (some (.aload_n 0, 1, 0, 0, .null, [])) none)) (cond (Nat.ble 47 pc) (cond (Nat.beq pc 47) (some (.getfield 45, 3, 2, 6, .null, [112])) none) (cond (Nat.beq pc 46) (some (.dup, 1, 0, 0, .null, [])) none)))) (cond (Nat.ble 37 pc) (cond (Nat.ble 41 pc) (cond (Nat.ble 42 pc) (cond (Nat.ble 45 pc) (cond (Nat.beq pc 45) (some (.aload_n 0, 1, 0, 0, .null, [])) none) (cond (Nat.beq pc 42) (some (.putfield 42, 3, 2, 5, .null, [111])) none)) (cond (Nat.beq pc 41) (some (.iadd, 1, 0, 0, .null, [])) none)) (cond (Nat.ble 40 pc) (cond (Nat.beq pc 40) (some (.iload_n 2, 1, 0, 0, .null, [])) none) (cond (Nat.beq pc 37) (some (.getfield 42, 3, 2, 5, .null, [111])) none))) (cond (Nat.ble 35 pc) (cond (Nat.ble 36 pc) (cond (Nat.beq pc 36) (some (.dup, 1, 0, 0, .null, [])) none) (cond (Nat.beq pc 35) (some (.aload_n 0, 1, 0, 0, .null, [])) none)) (cond (Nat.ble 32 pc) (cond (Nat.beq pc 32) (some (.putfield 92, 3, 0, 2, .null, [83])) none) (cond (Nat.beq pc 31) (some (.iaload, 1, 0, 0, .null, [])) none))))) (cond (Nat.ble 15 pc) (cond (Nat.ble 24 pc) (cond (Nat.ble 26 pc) (cond (Nat.ble 27 pc) (cond (Nat.ble 30 pc) (cond (Nat.beq pc 30) (some (.iconst 2, 1, 0, 0, .int 2, [])) none) (cond (Nat.beq pc 27) (some (.getfield 9, 3, 2, 0, .null, [105])) none)) (cond (Nat.beq pc 26) (some (.aload_n 0, 1, 0, 0, .null, [])) none)) (cond (Nat.ble 25 pc) (cond (Nat.beq pc 25) (some (.aaload, 1, 0, 0, .null, [])) none) (cond (Nat.beq pc 24) (some (.iload_n 1, 1, 0, 0, .null, [])) none))) (cond (Nat.ble 19 pc) (cond (Nat.ble 20 pc) (cond (Nat.ble 21 pc) (cond (Nat.beq pc 21) (some (.getfield 17, 3, 2, 1, .null, [106])) none) (cond (Nat.beq pc 20) (some (.aload_n 0, 1, 0, 0, .null, [])) none)) (cond (Nat.beq pc 19) (some (.istore_n 2, 1, 0, 0, .null, [])) none)) (cond (Nat.ble 16 pc) (cond (Nat.beq pc 16) (some (.getfield 92, 3, 0, 2, .null, [83])) none) (cond (Nat.beq pc 15) (some (.aaload, 1, 0, 0, .null, [])) none)))) (cond (Nat.ble 8 pc) (cond (Nat.ble 10 pc) (cond (Nat.ble 11 pc) (cond (Nat.ble 14 pc) (cond (Nat.beq pc 14) (some (.iload_n 1, 1, 0, 0, .null, [])) none) (cond (Nat.beq pc 11) (some (.getfield 17, 3, 2, 1, .null, [106])) none)) (cond (Nat.beq pc 10) (some (.aload_n 0, 1, 0, 0, .null, [])) none)) (cond (Nat.ble 9 pc) (cond (Nat.beq pc 9) (some (.ireturn, 1, 0, 0, .null, [])) none) (cond (Nat.beq pc 8) (some (.iconst (-1), 1, 0, 0, .int (-1), [])) none))) (cond (Nat.ble 2 pc) (cond (Nat.ble 5 pc) (cond (Nat.beq pc 5) (some (.ifCond .ne 5, 3, 10, 0, .null, [])) none) (cond (Nat.beq pc 2) (some (.invokevirtual 135, 3, 35, 1, .null, [243, 244, 245, 49])) none)) (cond (Nat.ble 1 pc) (cond (Nat.beq pc 1) (some (.iload_n 1, 1, 0, 0, .null, [])) none) (cond (Nat.beq pc 0) (some (.aload_n 0, 1, 0, 0, .null, [])) none)))))
/-- BraidHorns$Track.tell(I)I -/
def xI_57 : Nat → Option xEn := fun pc => cond (Nat.ble 104 pc) (cond (Nat.ble 124 pc) (cond (Nat.ble 132 pc) (cond (Nat.ble 137 pc) (cond (Nat.ble 139 pc) (cond (Nat.ble 141 pc) (cond (Nat.beq pc 141) (some (.ireturn, 1, 0, 0, .null, [])) none) (cond (Nat.beq pc 139) (some (.bipush (-2), 2, 0, 0, .int (-2), [])) none)) (cond (Nat.ble 138 pc) (cond (Nat.beq pc 138) (some (.ireturn, 1, 0, 0, .null, [])) none) (cond (Nat.beq pc 137) (some (.iaload, 1, 0, 0, .null, [])) none))) (cond (Nat.ble 133 pc) (cond (Nat.ble 136 pc) (cond (Nat.beq pc 136) (some (.iconst 2, 1, 0, 0, .int 2, [])) none) (cond (Nat.beq pc 133) (some (.getfield 9, 3, 2, 0, .null, [105])) none)) (cond (Nat.beq pc 132) (some (.aload_n 0, 1, 0, 0, .null, [])) none))) (cond (Nat.ble 129 pc) (cond (Nat.ble 130 pc) (cond (Nat.ble 131 pc) (cond (Nat.beq pc 131) (some (.ireturn, 1, 0, 0, .null, [])) none) (cond (Nat.beq pc 130) (some (.iaload, 1, 0, 0, .null, [])) none)) (cond (Nat.beq pc 129) (some (.iconst 1, 1, 0, 0, .int 1, [])) none)) (cond (Nat.ble 125 pc) (cond (Nat.ble 126 pc) (cond (Nat.beq pc 126) (some (.getfield 9, 3, 2, 0, .null, [105])) none) (cond (Nat.beq pc 125) (some (.aload_n 0, 1, 0, 0, .null, [])) none)) (cond (Nat.beq pc 124) (some (.ireturn, 1, 0, 0, .null, [])) none)))) (cond (Nat.ble 114 pc) (cond (Nat.ble 119 pc) (cond (Nat.ble 122 pc) (cond (Nat.ble 123 pc) (cond (Nat.beq pc 123) (some (.iaload, 1, 0, 0, .null, [])) none) (cond (Nat.beq pc 122) (some (.iconst 0, 1, 0, 0, .int 0, [])) none)) (cond (Nat.beq pc 119) (some (.getfield 9, 3, 2, 0, .null, [105])) none)) (cond (Nat.ble 117 pc) (cond (Nat.ble 118 pc) (cond (Nat.beq pc 118) (some (.aload_n 0, 1, 0, 0, .null, [])) none) (cond (Nat.beq pc 117) (some (.ireturn, 1, 0, 0, .null, [])) none)) (cond (Nat.beq pc 114) (some (.getfield 51, 3, 2, 8, .null, [114])) none))) (cond (Nat.ble 109 pc) (cond (Nat.ble 112 pc) (cond (Nat.ble 113 pc) (cond (Nat.beq pc 113) (some (.aload_n 0, 1, 0, 0, .null, [])) none) (cond (Nat.beq pc 112) (some (.ireturn, 1, 0, 0, .null, [])) none)) (cond (Nat.beq pc 109) (some (.getfield 48, 3, 2, 7, .null, [113])) none)) (cond (Nat.ble 107 pc) (cond (Nat.ble 108 pc) (cond (Nat.beq pc 108) (some (.aload_n 0, 1, 0, 0, .null, [])) none) (cond (Nat.beq pc 107) (some (.ireturn, 1, 0, 0, .null, [])) none)) (cond (Nat.beq pc 104) (some (.invokevirtual 149, 3, 46, 0, .null, [360, 362, 4, 49])) none))))) (cond (Nat.ble 84 pc) (cond (Nat.ble 94 pc) (cond (Nat.ble 99 pc) (cond (Nat.ble 102 pc) (cond (Nat.ble 103 pc) (cond (Nat.beq pc 103) (some (.aload_n 0, 1, 0, 0, .null, [])) none) (cond (Nat.beq pc 102) (some (.ireturn, 1, 0, 0, .null, [])) none)) (cond (Nat.beq pc 99) (some (.getfield 45, 3, 2, 6, .null, [112])) none)) (cond (Nat.ble 97 pc) (cond (Nat.ble 98 pc) (cond (Nat.beq pc 98) (some (.aload_n 0, 1, 0, 0, .null, [])) none) (cond (Nat.beq pc 97) (some (.ireturn, 1, 0, 0, .null, [])) none)) (cond (Nat.beq pc 94) (some (.getfield 42, 3, 2, 5, .null, [111])) none))) (cond (Nat.ble 89 pc) (cond (Nat.ble 92 pc) (cond (Nat.ble 93 pc) (cond (Nat.beq pc 93) (some (.aload_n 0, 1, 0, 0, .null, [])) none) (cond (Nat.beq pc 92) (some (.ireturn, 1, 0, 0, .null, [])) none)) (cond (Nat.beq pc 89) (some (.getfield 39, 3, 2, 4, .null, [110])) none)) (cond (Nat.ble 87 pc) (cond (Nat.ble 88 pc) (cond (Nat.beq pc 88) (some (.aload_n 0, 1, 0, 0, .null, [])) none) (cond (Nat.beq pc 87) (some (.ireturn, 1, 0, 0, .null, [])) none)) (cond (Nat.beq pc 84) (some (.getfield 36, 3, 2, 3, .null, [109])) none)))) (cond (Nat.ble 74 pc) (cond (Nat.ble 79 pc) (cond (Nat.ble 82 pc) (cond (Nat.ble 83 pc) (cond (Nat.beq pc 83) (some (.aload_n 0, 1, 0, 0, .null, [])) none) (cond (Nat.beq pc 82) (some (.ireturn, 1, 0, 0, .null, [])) none)) (cond (Nat.beq pc 79) (some (.getfield 32, 3, 2, 2, .null, [108])) none)) (cond (Nat.ble 77 pc) (cond (Nat.ble 78 pc) (cond (Nat.beq pc 78) (some (.aload_n 0, 1, 0, 0, .null, [])) none) (cond (Nat.beq pc 77) (some (.ireturn, 1, 0, 0, .null, [])) none)) (cond (Nat.beq pc 74) (some (.invokevirtual 81, 3, 42, 0, .null, [197, 198, 199, 49])) none))) (cond (Nat.ble 69 pc) (cond (Nat.ble 72 pc) (cond (Nat.ble 73 pc) (cond (Nat.beq pc 73) (some (.aload_n 0, 1, 0, 0, .null, [])) none) (cond (Nat.beq pc 72) (some (.ireturn, 1, 0, 0, .null, [])) none)) (cond (Nat.beq pc 69) (some (.invokevirtual 58, 3, 34, 0, .null, [217, 218, 219, 49])) none)) (cond (Nat.ble 1 pc) (cond (Nat.ble 68 pc) (cond (Nat.beq pc 68) (some (.aload_n 0, 1, 0, 0, .null, [])) none) (cond (Nat.beq pc 1) (some (.tableswitch 138 0 12 #[67, 72, 77, 82, 87, 92, 97, 102, 107, 112, 117, 124, 131], 67, 0, 0, .null, [])) none)) (cond (Nat.beq pc 0) (some (.iload_n 1, 1, 0, 0, .null, [])) none)))))
/-- BraidHorns.<init>()V -/
def xI_58 : Nat → Option xEn := fun pc => cond (Nat.ble 59 pc) (cond (Nat.ble 86 pc) (cond (Nat.ble 99 pc) (cond (Nat.ble 108 pc) (cond (Nat.ble 112 pc) (cond (Nat.ble 115 pc) (cond (Nat.beq pc 115) (some (.return_, 1, 0, 0, .null, [])) none) (cond (Nat.beq pc 112) (some (.putfield 34, 3, 3, 5, .null, [156])) none)) (cond (Nat.ble 109 pc) (cond (Nat.beq pc 109) (some (.invokespecial 33, 3, 19, 0, .null, [137, 138, 51])) none) (cond (Nat.beq pc 108) (some (.dup, 1, 0, 0, .null, [])) none))) (cond (Nat.ble 104 pc) (cond (Nat.ble 105 pc) (cond (Nat.beq pc 105) (some (.new 31, 3, 1, 0, .null, [135, 136, 51])) none) (cond (Nat.beq pc 104) (some (.aload_n 0, 1, 0, 0, .null, [])) none)) (cond (Nat.ble 101 pc) (cond (Nat.beq pc 101) (some (.putfield 27, 3, 3, 4, .null, [155])) none) (cond (Nat.beq pc 99) (some (.newarray .boolean, 2, 1, 0, .null, [149])) none)))) (cond (Nat.ble 91 pc) (cond (Nat.ble 97 pc) (cond (Nat.ble 98 pc) (cond (Nat.beq pc 98) (some (.iconst 2, 1, 0, 0, .int 2, [])) none) (cond (Nat.beq pc 97) (some (.aload_n 0, 1, 0, 0, .null, [])) none)) (cond (Nat.ble 94 pc) (cond (Nat.beq pc 94) (some (.goto (-25), 3, 69, 0, .null, [])) none) (cond (Nat.beq pc 91) (some (.iinc 1 1, 3, 0, 0, .int (1), [])) none))) (cond (Nat.ble 87 pc) (cond (Nat.ble 90 pc) (cond (Nat.beq pc 90) (some (.aastore, 1, 0, 0, .null, [])) none) (cond (Nat.beq pc 87) (some (.invokespecial 9, 3, 32, 0, .null, [67, 68, 49])) none)) (cond (Nat.beq pc 86) (some (.dup, 1, 0, 0, .null, [])) none)))) (cond (Nat.ble 70 pc) (cond (Nat.ble 78 pc) (cond (Nat.ble 82 pc) (cond (Nat.ble 83 pc) (cond (Nat.beq pc 83) (some (.new 7, 3, 2, 0, .null, [65, 66, 49])) none) (cond (Nat.beq pc 82) (some (.iload_n 1, 1, 0, 0, .null, [])) none)) (cond (Nat.ble 79 pc) (cond (Nat.beq pc 79) (some (.getfield 24, 3, 3, 3, .null, [154])) none) (cond (Nat.beq pc 78) (some (.aload_n 0, 1, 0, 0, .null, [])) none))) (cond (Nat.ble 74 pc) (cond (Nat.ble 75 pc) (cond (Nat.beq pc 75) (some (.if_icmp .ge 22, 3, 97, 0, .null, [])) none) (cond (Nat.beq pc 74) (some (.arraylength, 1, 0, 0, .null, [])) none)) (cond (Nat.ble 71 pc) (cond (Nat.beq pc 71) (some (.getfield 24, 3, 3, 3, .null, [154])) none) (cond (Nat.beq pc 70) (some (.aload_n 0, 1, 0, 0, .null, [])) none)))) (cond (Nat.ble 64 pc) (cond (Nat.ble 68 pc) (cond (Nat.ble 69 pc) (cond (Nat.beq pc 69) (some (.iload_n 1, 1, 0, 0, .null, [])) none) (cond (Nat.beq pc 68) (some (.istore_n 1, 1, 0, 0, .null, [])) none)) (cond (Nat.ble 67 pc) (cond (Nat.beq pc 67) (some (.iconst 0, 1, 0, 0, .int 0, [])) none) (cond (Nat.beq pc 64) (some (.putfield 24, 3, 3, 3, .null, [154])) none))) (cond (Nat.ble 60 pc) (cond (Nat.ble 61 pc) (cond (Nat.beq pc 61) (some (.anewarray 7, 3, 3, 0, .null, [65])) none) (cond (Nat.beq pc 60) (some (.iconst 2, 1, 0, 0, .int 2, [])) none)) (cond (Nat.beq pc 59) (some (.aload_n 0, 1, 0, 0, .null, [])) none))))) (cond (Nat.ble 28 pc) (cond (Nat.ble 43 pc) (cond (Nat.ble 51 pc) (cond (Nat.ble 55 pc) (cond (Nat.ble 56 pc) (cond (Nat.beq pc 56) (some (.putfield 20, 3, 3, 2, .null, [153])) none) (cond (Nat.beq pc 55) (some (.iconst 0, 1, 0, 0, .int 0, [])) none)) (cond (Nat.ble 54 pc) (cond (Nat.beq pc 54) (some (.aload_n 0, 1, 0, 0, .null, [])) none) (cond (Nat.beq pc 51) (some (.goto (-25), 3, 26, 0, .null, [])) none))) (cond (Nat.ble 47 pc) (cond (Nat.ble 48 pc) (cond (Nat.beq pc 48) (some (.iinc 1 1, 3, 0, 0, .int (1), [])) none) (cond (Nat.beq pc 47) (some (.aastore, 1, 0, 0, .null, [])) none)) (cond (Nat.ble 44 pc) (cond (Nat.beq pc 44) (some (.invokespecial 9, 3, 32, 0, .null, [67, 68, 49])) none) (cond (Nat.beq pc 43) (some (.dup, 1, 0, 0, .null, [])) none)))) (cond (Nat.ble 35 pc) (cond (Nat.ble 39 pc) (cond (Nat.ble 40 pc) (cond (Nat.beq pc 40) (some (.new 7, 3, 2, 0, .null, [65, 66, 49])) none) (cond (Nat.beq pc 39) (some (.iload_n 1, 1, 0, 0, .null, [])) none)) (cond (Nat.ble 36 pc) (cond (Nat.beq pc 36) (some (.getfield 16, 3, 3, 1, .null, [152])) none) (cond (Nat.beq pc 35) (some (.aload_n 0, 1, 0, 0, .null, [])) none))) (cond (Nat.ble 31 pc) (cond (Nat.ble 32 pc) (cond (Nat.beq pc 32) (some (.if_icmp .ge 22, 3, 54, 0, .null, [])) none) (cond (Nat.beq pc 31) (some (.arraylength, 1, 0, 0, .null, [])) none)) (cond (Nat.beq pc 28) (some (.getfield 16, 3, 3, 1, .null, [152])) none)))) (cond (Nat.ble 15 pc) (cond (Nat.ble 24 pc) (cond (Nat.ble 26 pc) (cond (Nat.ble 27 pc) (cond (Nat.beq pc 27) (some (.aload_n 0, 1, 0, 0, .null, [])) none) (cond (Nat.beq pc 26) (some (.iload_n 1, 1, 0, 0, .null, [])) none)) (cond (Nat.ble 25 pc) (cond (Nat.beq pc 25) (some (.istore_n 1, 1, 0, 0, .null, [])) none) (cond (Nat.beq pc 24) (some (.iconst 0, 1, 0, 0, .int 0, [])) none))) (cond (Nat.ble 18 pc) (cond (Nat.ble 21 pc) (cond (Nat.beq pc 21) (some (.putfield 16, 3, 3, 1, .null, [152])) none) (cond (Nat.beq pc 18) (some (.anewarray 7, 3, 3, 0, .null, [65])) none)) (cond (Nat.ble 16 pc) (cond (Nat.beq pc 16) (some (.bipush 7, 2, 0, 0, .int 7, [])) none) (cond (Nat.beq pc 15) (some (.aload_n 0, 1, 0, 0, .null, [])) none)))) (cond (Nat.ble 5 pc) (cond (Nat.ble 9 pc) (cond (Nat.ble 12 pc) (cond (Nat.beq pc 12) (some (.putfield 10, 3, 3, 0, .null, [151])) none) (cond (Nat.beq pc 9) (some (.invokespecial 9, 3, 32, 0, .null, [67, 68, 49])) none)) (cond (Nat.ble 8 pc) (cond (Nat.beq pc 8) (some (.dup, 1, 0, 0, .null, [])) none) (cond (Nat.beq pc 5) (some (.new 7, 3, 2, 0, .null, [65, 66, 49])) none))) (cond (Nat.ble 1 pc) (cond (Nat.ble 4 pc) (cond (Nat.beq pc 4) (some (.aload_n 0, 1, 0, 0, .null, [])) none) (cond (Nat.beq pc 1) (some (.invokespecial 1, 3, 1000, 0, .null, [62, 63, 64])) none)) (cond (Nat.beq pc 0) (some (.aload_n 0, 1, 0, 0, .null, [])) none)))))
/-- BraidHorns.keepState()V -/
def xI_59 : Nat → Option xEn := fun pc => cond (Nat.ble 8 pc) (cond (Nat.ble 10 pc) (cond (Nat.ble 13 pc) (cond (Nat.ble 16 pc) (cond (Nat.beq pc 16) (some (.return_, 1, 0, 0, .null, [])) none) (cond (Nat.beq pc 13) (some (.invokevirtual 146, 3, 33, 1, .null, [178, 179, 180, 49])) none)) (cond (Nat.beq pc 10) (some (.getfield 10, 3, 3, 0, .null, [151])) none)) (cond (Nat.ble 9 pc) (cond (Nat.beq pc 9) (some (.aload_n 0, 1, 0, 0, .null, [])) none) (cond (Nat.beq pc 8) (some (.aaload, 1, 0, 0, .null, [])) none))) (cond (Nat.ble 4 pc) (cond (Nat.ble 5 pc) (cond (Nat.beq pc 5) (some (.getfield 20, 3, 3, 2, .null, [153])) none) (cond (Nat.beq pc 4) (some (.aload_n 0, 1, 0, 0, .null, [])) none)) (cond (Nat.ble 1 pc) (cond (Nat.beq pc 1) (some (.getfield 16, 3, 3, 1, .null, [152])) none) (cond (Nat.beq pc 0) (some (.aload_n 0, 1, 0, 0, .null, [])) none)))
/-- BraidHorns.recorded(I)I -/
def xI_60 : Nat → Option xEn := fun pc => cond (Nat.ble 35 pc) (cond (Nat.ble 53 pc) (cond (Nat.ble 63 pc) (cond (Nat.ble 69 pc) (cond (Nat.ble 70 pc) (cond (Nat.ble 71 pc) (cond (Nat.beq pc 71) (some (.ireturn, 1, 0, 0, .null, [])) none) (cond (Nat.beq pc 70) (some (.iload_n 1, 1, 0, 0, .null, [])) none)) (cond (Nat.beq pc 69) (some (.aastore, 1, 0, 0, .null, [])) none)) (cond (Nat.ble 66 pc) (cond (Nat.ble 68 pc) (cond (Nat.beq pc 68) (some (.aload_n 2, 1, 0, 0, .null, [])) none) (cond (Nat.beq pc 66) (some (.bipush 6, 2, 0, 0, .int 6, [])) none)) (cond (Nat.beq pc 63) (some (.getfield 16, 3, 3, 1, .null, [152])) none))) (cond (Nat.ble 56 pc) (cond (Nat.ble 59 pc) (cond (Nat.ble 62 pc) (cond (Nat.beq pc 62) (some (.aload_n 0, 1, 0, 0, .null, [])) none) (cond (Nat.beq pc 59) (some (.goto (-23), 3, 36, 0, .null, [])) none)) (cond (Nat.beq pc 56) (some (.iinc 3 1, 3, 0, 0, .int (1), [])) none)) (cond (Nat.ble 54 pc) (cond (Nat.ble 55 pc) (cond (Nat.beq pc 55) (some (.aastore, 1, 0, 0, .null, [])) none) (cond (Nat.beq pc 54) (some (.aaload, 1, 0, 0, .null, [])) none)) (cond (Nat.beq pc 53) (some (.iadd, 1, 0, 0, .null, [])) none)))) (cond (Nat.ble 43 pc) (cond (Nat.ble 48 pc) (cond (Nat.ble 51 pc) (cond (Nat.ble 52 pc) (cond (Nat.beq pc 52) (some (.iconst 1, 1, 0, 0, .int 1, [])) none) (cond (Nat.beq pc 51) (some (.iload_n 3, 1, 0, 0, .null, [])) none)) (cond (Nat.beq pc 48) (some (.getfield 16, 3, 3, 1, .null, [152])) none)) (cond (Nat.ble 46 pc) (cond (Nat.ble 47 pc) (cond (Nat.beq pc 47) (some (.aload_n 0, 1, 0, 0, .null, [])) none) (cond (Nat.beq pc 46) (some (.iload_n 3, 1, 0, 0, .null, [])) none)) (cond (Nat.beq pc 43) (some (.getfield 16, 3, 3, 1, .null, [152])) none))) (cond (Nat.ble 37 pc) (cond (Nat.ble 39 pc) (cond (Nat.ble 42 pc) (cond (Nat.beq pc 42) (some (.aload_n 0, 1, 0, 0, .null, [])) none) (cond (Nat.beq pc 39) (some (.if_icmp .ge 23, 3, 62, 0, .null, [])) none)) (cond (Nat.beq pc 37) (some (.bipush 6, 2, 0, 0, .int 6, [])) none)) (cond (Nat.ble 36 pc) (cond (Nat.beq pc 36) (some (.iload_n 3, 1, 0, 0, .null, [])) none) (cond (Nat.beq pc 35) (some (.istore_n 3, 1, 0, 0, .null, [])) none))))) (cond (Nat.ble 20 pc) (cond (Nat.ble 27 pc) (cond (Nat.ble 32 pc) (cond (Nat.ble 33 pc) (cond (Nat.ble 34 pc) (cond (Nat.beq pc 34) (some (.iconst 0, 1, 0, 0, .int 0, [])) none) (cond (Nat.beq pc 33) (some (.astore_n 2, 1, 0, 0, .null, [])) none)) (cond (Nat.beq pc 32) (some (.aaload, 1, 0, 0, .null, [])) none)) (cond (Nat.ble 28 pc) (cond (Nat.ble 31 pc) (cond (Nat.beq pc 31) (some (.iconst 0, 1, 0, 0, .int 0, [])) none) (cond (Nat.beq pc 28) (some (.getfield 16, 3, 3, 1, .null, [152])) none)) (cond (Nat.beq pc 27) (some (.aload_n 0, 1, 0, 0, .null, [])) none))) (cond (Nat.ble 22 pc) (cond (Nat.ble 25 pc) (cond (Nat.ble 26 pc) (cond (Nat.beq pc 26) (some (.ireturn, 1, 0, 0, .null, [])) none) (cond (Nat.beq pc 25) (some (.iload_n 1, 1, 0, 0, .null, [])) none)) (cond (Nat.beq pc 22) (some (.putfield 20, 3, 3, 2, .null, [153])) none)) (cond (Nat.ble 21 pc) (cond (Nat.beq pc 21) (some (.iadd, 1, 0, 0, .null, [])) none) (cond (Nat.beq pc 20) (some (.iconst 1, 1, 0, 0, .int 1, [])) none)))) (cond (Nat.ble 7 pc) (cond (Nat.ble 15 pc) (cond (Nat.ble 16 pc) (cond (Nat.ble 17 pc) (cond (Nat.beq pc 17) (some (.getfield 20, 3, 3, 2, .null, [153])) none) (cond (Nat.beq pc 16) (some (.dup, 1, 0, 0, .null, [])) none)) (cond (Nat.beq pc 15) (some (.aload_n 0, 1, 0, 0, .null, [])) none)) (cond (Nat.ble 10 pc) (cond (Nat.ble 12 pc) (cond (Nat.beq pc 12) (some (.if_icmp .ge 15, 3, 27, 0, .null, [])) none) (cond (Nat.beq pc 10) (some (.bipush 6, 2, 0, 0, .int 6, [])) none)) (cond (Nat.beq pc 7) (some (.getfield 20, 3, 3, 2, .null, [153])) none))) (cond (Nat.ble 4 pc) (cond (Nat.ble 5 pc) (cond (Nat.ble 6 pc) (cond (Nat.beq pc 6) (some (.aload_n 0, 1, 0, 0, .null, [])) none) (cond (Nat.beq pc 5) (some (.ireturn, 1, 0, 0, .null, [])) none)) (cond (Nat.beq pc 4) (some (.iload_n 1, 1, 0, 0, .null, [])) none)) (cond (Nat.ble 1 pc) (cond (Nat.beq pc 1) (some (.ifCond .ge 5, 3, 6, 0, .null, [])) none) (cond (Nat.beq pc 0) (some (.iload_n 1, 1, 0, 0, .null, [])) none)))))
/-- BraidHorns.set(II)I -/
def xI_61 : Nat → Option xEn := fun pc => cond (Nat.ble 9 pc) (cond (Nat.ble 11 pc) (cond (Nat.ble 14 pc) (cond (Nat.ble 17 pc) (cond (Nat.beq pc 17) (some (.ireturn, 1, 0, 0, .null, [])) none) (cond (Nat.beq pc 14) (some (.invokevirtual 45, 3, 60, 1, .null, [201, 203, 1, 48])) none)) (cond (Nat.beq pc 11) (some (.invokevirtual 41, 3, 49, 2, .null, [189, 190, 191, 49])) none)) (cond (Nat.ble 10 pc) (cond (Nat.beq pc 10) (some (.iload_n 2, 1, 0, 0, .null, [])) none) (cond (Nat.beq pc 9) (some (.iload_n 1, 1, 0, 0, .null, [])) none))) (cond (Nat.ble 4 pc) (cond (Nat.ble 5 pc) (cond (Nat.ble 6 pc) (cond (Nat.beq pc 6) (some (.getfield 10, 3, 3, 0, .null, [151])) none) (cond (Nat.beq pc 5) (some (.aload_n 0, 1, 0, 0, .null, [])) none)) (cond (Nat.beq pc 4) (some (.aload_n 0, 1, 0, 0, .null, [])) none)) (cond (Nat.ble 1 pc) (cond (Nat.beq pc 1) (some (.invokevirtual 38, 3, 59, 0, .null, [174, 176, 0, 48])) none) (cond (Nat.beq pc 0) (some (.aload_n 0, 1, 0, 0, .null, [])) none)))
/-- BraidHorns.carrier(II)I -/
def xI_62 : Nat → Option xEn := fun pc => cond (Nat.ble 9 pc) (cond (Nat.ble 11 pc) (cond (Nat.ble 14 pc) (cond (Nat.ble 17 pc) (cond (Nat.beq pc 17) (some (.ireturn, 1, 0, 0, .null, [])) none) (cond (Nat.beq pc 14) (some (.invokevirtual 45, 3, 60, 1, .null, [201, 203, 1, 48])) none)) (cond (Nat.beq pc 11) (some (.invokevirtual 49, 3, 50, 2, .null, [209, 210, 211, 49])) none)) (cond (Nat.ble 10 pc) (cond (Nat.beq pc 10) (some (.iload_n 2, 1, 0, 0, .null, [])) none) (cond (Nat.beq pc 9) (some (.iload_n 1, 1, 0, 0, .null, [])) none))) (cond (Nat.ble 4 pc) (cond (Nat.ble 5 pc) (cond (Nat.ble 6 pc) (cond (Nat.beq pc 6) (some (.getfield 10, 3, 3, 0, .null, [151])) none) (cond (Nat.beq pc 5) (some (.aload_n 0, 1, 0, 0, .null, [])) none)) (cond (Nat.beq pc 4) (some (.aload_n 0, 1, 0, 0, .null, [])) none)) (cond (Nat.ble 1 pc) (cond (Nat.beq pc 1) (some (.invokevirtual 38, 3, 59, 0, .null, [174, 176, 0, 48])) none) (cond (Nat.beq pc 0) (some (.aload_n 0, 1, 0, 0, .null, [])) none)))
/-- BraidHorns.takeOut(I)I -/
def xI_63 : Nat → Option xEn := fun pc => cond (Nat.ble 6 pc) (cond (Nat.ble 10 pc) (cond (Nat.ble 13 pc) (cond (Nat.ble 16 pc) (cond (Nat.beq pc 16) (some (.ireturn, 1, 0, 0, .null, [])) none) (cond (Nat.beq pc 13) (some (.invokevirtual 45, 3, 60, 1, .null, [201, 203, 1, 48])) none)) (cond (Nat.beq pc 10) (some (.invokevirtual 52, 3, 51, 1, .null, [239, 240, 241, 49])) none)) (cond (Nat.ble 9 pc) (cond (Nat.beq pc 9) (some (.iload_n 1, 1, 0, 0, .null, [])) none) (cond (Nat.beq pc 6) (some (.getfield 10, 3, 3, 0, .null, [151])) none))) (cond (Nat.ble 4 pc) (cond (Nat.ble 5 pc) (cond (Nat.beq pc 5) (some (.aload_n 0, 1, 0, 0, .null, [])) none) (cond (Nat.beq pc 4) (some (.aload_n 0, 1, 0, 0, .null, [])) none)) (cond (Nat.ble 1 pc) (cond (Nat.beq pc 1) (some (.invokevirtual 38, 3, 59, 0, .null, [174, 176, 0, 48])) none) (cond (Nat.beq pc 0) (some (.aload_n 0, 1, 0, 0, .null, [])) none)))
/-- BraidHorns.run(I)I -/
def xI_64 : Nat → Option xEn := fun pc => cond (Nat.ble 6 pc) (cond (Nat.ble 10 pc) (cond (Nat.ble 13 pc) (cond (Nat.ble 16 pc) (cond (Nat.beq pc 16) (some (.ireturn, 1, 0, 0, .null, [])) none) (cond (Nat.beq pc 13) (some (.invokevirtual 45, 3, 60, 1, .null, [201, 203, 1, 48])) none)) (cond (Nat.beq pc 10) (some (.invokevirtual 55, 3, 53, 1, .null, [251, 252, 253, 49])) none)) (cond (Nat.ble 9 pc) (cond (Nat.beq pc 9) (some (.iload_n 1, 1, 0, 0, .null, [])) none) (cond (Nat.beq pc 6) (some (.getfield 10, 3, 3, 0, .null, [151])) none))) (cond (Nat.ble 4 pc) (cond (Nat.ble 5 pc) (cond (Nat.beq pc 5) (some (.aload_n 0, 1, 0, 0, .null, [])) none) (cond (Nat.beq pc 4) (some (.aload_n 0, 1, 0, 0, .null, [])) none)) (cond (Nat.ble 1 pc) (cond (Nat.beq pc 1) (some (.invokevirtual 38, 3, 59, 0, .null, [174, 176, 0, 48])) none) (cond (Nat.beq pc 0) (some (.aload_n 0, 1, 0, 0, .null, [])) none)))
/-- BraidHorns.snap(I)I -/
def xI_65 : Nat → Option xEn := fun pc => cond (Nat.ble 6 pc) (cond (Nat.ble 10 pc) (cond (Nat.ble 13 pc) (cond (Nat.ble 16 pc) (cond (Nat.beq pc 16) (some (.ireturn, 1, 0, 0, .null, [])) none) (cond (Nat.beq pc 13) (some (.invokevirtual 45, 3, 60, 1, .null, [201, 203, 1, 48])) none)) (cond (Nat.beq pc 10) (some (.invokevirtual 58, 3, 54, 1, .null, [302, 303, 304, 49])) none)) (cond (Nat.ble 9 pc) (cond (Nat.beq pc 9) (some (.iload_n 1, 1, 0, 0, .null, [])) none) (cond (Nat.beq pc 6) (some (.getfield 10, 3, 3, 0, .null, [151])) none))) (cond (Nat.ble 4 pc) (cond (Nat.ble 5 pc) (cond (Nat.beq pc 5) (some (.aload_n 0, 1, 0, 0, .null, [])) none) (cond (Nat.beq pc 4) (some (.aload_n 0, 1, 0, 0, .null, [])) none)) (cond (Nat.ble 1 pc) (cond (Nat.beq pc 1) (some (.invokevirtual 38, 3, 59, 0, .null, [174, 176, 0, 48])) none) (cond (Nat.beq pc 0) (some (.aload_n 0, 1, 0, 0, .null, [])) none)))
/-- BraidHorns.tie(I)I -/
def xI_66 : Nat → Option xEn := fun pc => cond (Nat.ble 6 pc) (cond (Nat.ble 10 pc) (cond (Nat.ble 13 pc) (cond (Nat.ble 16 pc) (cond (Nat.beq pc 16) (some (.ireturn, 1, 0, 0, .null, [])) none) (cond (Nat.beq pc 13) (some (.invokevirtual 45, 3, 60, 1, .null, [201, 203, 1, 48])) none)) (cond (Nat.beq pc 10) (some (.invokevirtual 61, 3, 55, 1, .null, [310, 311, 312, 49])) none)) (cond (Nat.ble 9 pc) (cond (Nat.beq pc 9) (some (.iload_n 1, 1, 0, 0, .null, [])) none) (cond (Nat.beq pc 6) (some (.getfield 10, 3, 3, 0, .null, [151])) none))) (cond (Nat.ble 4 pc) (cond (Nat.ble 5 pc) (cond (Nat.beq pc 5) (some (.aload_n 0, 1, 0, 0, .null, [])) none) (cond (Nat.beq pc 4) (some (.aload_n 0, 1, 0, 0, .null, [])) none)) (cond (Nat.ble 1 pc) (cond (Nat.beq pc 1) (some (.invokevirtual 38, 3, 59, 0, .null, [174, 176, 0, 48])) none) (cond (Nat.beq pc 0) (some (.aload_n 0, 1, 0, 0, .null, [])) none)))
/-- BraidHorns.refill(I)I -/
def xI_67 : Nat → Option xEn := fun pc => cond (Nat.ble 6 pc) (cond (Nat.ble 10 pc) (cond (Nat.ble 13 pc) (cond (Nat.ble 16 pc) (cond (Nat.beq pc 16) (some (.ireturn, 1, 0, 0, .null, [])) none) (cond (Nat.beq pc 13) (some (.invokevirtual 45, 3, 60, 1, .null, [201, 203, 1, 48])) none)) (cond (Nat.beq pc 10) (some (.invokevirtual 64, 3, 56, 1, .null, [318, 319, 320, 49])) none)) (cond (Nat.ble 9 pc) (cond (Nat.beq pc 9) (some (.iload_n 1, 1, 0, 0, .null, [])) none) (cond (Nat.beq pc 6) (some (.getfield 10, 3, 3, 0, .null, [151])) none))) (cond (Nat.ble 4 pc) (cond (Nat.ble 5 pc) (cond (Nat.beq pc 5) (some (.aload_n 0, 1, 0, 0, .null, [])) none) (cond (Nat.beq pc 4) (some (.aload_n 0, 1, 0, 0, .null, [])) none)) (cond (Nat.ble 1 pc) (cond (Nat.beq pc 1) (some (.invokevirtual 38, 3, 59, 0, .null, [174, 176, 0, 48])) none) (cond (Nat.beq pc 0) (some (.aload_n 0, 1, 0, 0, .null, [])) none)))
/-- BraidHorns.of(II)I -/
def xI_68 : Nat → Option xEn := fun pc => cond (Nat.ble 13 pc) (cond (Nat.ble 21 pc) (cond (Nat.ble 23 pc) (cond (Nat.ble 26 pc) (cond (Nat.beq pc 26) (some (.ireturn, 1, 0, 0, .null, [])) none) (cond (Nat.beq pc 23) (some (.invokevirtual 75, 3, 7, 1, .null, [327, 328, 329, 50])) none)) (cond (Nat.ble 22 pc) (cond (Nat.beq pc 22) (some (.iload_n 2, 1, 0, 0, .null, [])) none) (cond (Nat.beq pc 21) (some (.aaload, 1, 0, 0, .null, [])) none))) (cond (Nat.ble 17 pc) (cond (Nat.ble 20 pc) (cond (Nat.beq pc 20) (some (.iload_n 1, 1, 0, 0, .null, [])) none) (cond (Nat.beq pc 17) (some (.getfield 71, 3, 2, 1, .null, [107])) none)) (cond (Nat.ble 14 pc) (cond (Nat.beq pc 14) (some (.getfield 10, 3, 3, 0, .null, [151])) none) (cond (Nat.beq pc 13) (some (.aload_n 0, 1, 0, 0, .null, [])) none)))) (cond (Nat.ble 5 pc) (cond (Nat.ble 11 pc) (cond (Nat.ble 12 pc) (cond (Nat.beq pc 12) (some (.ireturn, 1, 0, 0, .null, [])) none) (cond (Nat.beq pc 11) (some (.iconst (-1), 1, 0, 0, .int (-1), [])) none)) (cond (Nat.ble 8 pc) (cond (Nat.beq pc 8) (some (.ifCond .ne 5, 3, 13, 0, .null, [])) none) (cond (Nat.beq pc 5) (some (.invokevirtual 67, 3, 35, 1, .null, [326, 244, 245, 49])) none))) (cond (Nat.ble 1 pc) (cond (Nat.ble 4 pc) (cond (Nat.beq pc 4) (some (.iload_n 1, 1, 0, 0, .null, [])) none) (cond (Nat.beq pc 1) (some (.getfield 10, 3, 3, 0, .null, [151])) none)) (cond (Nat.beq pc 0) (some (.aload_n 0, 1, 0, 0, .null, [])) none)))
/-- BraidHorns.at(II)I -/
def xI_69 : Nat → Option xEn := fun pc => cond (Nat.ble 12 pc) (cond (Nat.ble 20 pc) (cond (Nat.ble 24 pc) (cond (Nat.ble 27 pc) (cond (Nat.beq pc 27) (some (.ireturn, 1, 0, 0, .null, [])) none) (cond (Nat.beq pc 24) (some (.invokevirtual 83, 3, 37, 1, .null, [339, 340, 341, 49])) none)) (cond (Nat.ble 23 pc) (cond (Nat.beq pc 23) (some (.iload_n 3, 1, 0, 0, .null, [])) none) (cond (Nat.beq pc 20) (some (.getfield 10, 3, 3, 0, .null, [151])) none))) (cond (Nat.ble 16 pc) (cond (Nat.ble 19 pc) (cond (Nat.beq pc 19) (some (.aload_n 0, 1, 0, 0, .null, [])) none) (cond (Nat.beq pc 16) (some (.goto 11, 3, 27, 0, .null, [])) none)) (cond (Nat.ble 15 pc) (cond (Nat.beq pc 15) (some (.iconst (-1), 1, 0, 0, .int (-1), [])) none) (cond (Nat.beq pc 12) (some (.if_icmp .ne 7, 3, 19, 0, .null, [])) none)))) (cond (Nat.ble 6 pc) (cond (Nat.ble 10 pc) (cond (Nat.ble 11 pc) (cond (Nat.beq pc 11) (some (.iconst (-1), 1, 0, 0, .int (-1), [])) none) (cond (Nat.beq pc 10) (some (.iload_n 3, 1, 0, 0, .null, [])) none)) (cond (Nat.ble 9 pc) (cond (Nat.beq pc 9) (some (.istore_n 3, 1, 0, 0, .null, [])) none) (cond (Nat.beq pc 6) (some (.invokevirtual 80, 3, 36, 2, .null, [338, 214, 215, 49])) none))) (cond (Nat.ble 4 pc) (cond (Nat.ble 5 pc) (cond (Nat.beq pc 5) (some (.iload_n 2, 1, 0, 0, .null, [])) none) (cond (Nat.beq pc 4) (some (.iload_n 1, 1, 0, 0, .null, [])) none)) (cond (Nat.ble 1 pc) (cond (Nat.beq pc 1) (some (.getfield 10, 3, 3, 0, .null, [151])) none) (cond (Nat.beq pc 0) (some (.aload_n 0, 1, 0, 0, .null, [])) none))))
/-- BraidHorns.around(I)I -/
def xI_70 : Nat → Option xEn := fun pc => cond (Nat.ble 4 pc) (cond (Nat.ble 5 pc) (cond (Nat.ble 8 pc) (cond (Nat.beq pc 8) (some (.ireturn, 1, 0, 0, .null, [])) none) (cond (Nat.beq pc 5) (some (.invokevirtual 86, 3, 40, 1, .null, [347, 348, 349, 49])) none)) (cond (Nat.beq pc 4) (some (.iload_n 1, 1, 0, 0, .null, [])) none)) (cond (Nat.ble 1 pc) (cond (Nat.beq pc 1) (some (.getfield 10, 3, 3, 0, .null, [151])) none) (cond (Nat.beq pc 0) (some (.aload_n 0, 1, 0, 0, .null, [])) none))
/-- BraidHorns.count(I)I -/
def xI_71 : Nat → Option xEn := fun pc => cond (Nat.ble 37 pc) (cond (Nat.ble 42 pc) (cond (Nat.ble 46 pc) (cond (Nat.ble 49 pc) (cond (Nat.beq pc 49) (some (.ireturn, 1, 0, 0, .null, [])) none) (cond (Nat.beq pc 46) (some (.invokevirtual 92, 3, 57, 1, .null, [356, 357, 358, 49])) none)) (cond (Nat.ble 45 pc) (cond (Nat.beq pc 45) (some (.iload_n 1, 1, 0, 0, .null, [])) none) (cond (Nat.beq pc 42) (some (.getfield 10, 3, 3, 0, .null, [151])) none))) (cond (Nat.ble 40 pc) (cond (Nat.ble 41 pc) (cond (Nat.beq pc 41) (some (.aload_n 0, 1, 0, 0, .null, [])) none) (cond (Nat.beq pc 40) (some (.ireturn, 1, 0, 0, .null, [])) none)) (cond (Nat.beq pc 37) (some (.getfield 20, 3, 3, 2, .null, [153])) none))) (cond (Nat.ble 29 pc) (cond (Nat.ble 35 pc) (cond (Nat.ble 36 pc) (cond (Nat.beq pc 36) (some (.aload_n 0, 1, 0, 0, .null, [])) none) (cond (Nat.beq pc 35) (some (.ireturn, 1, 0, 0, .null, [])) none)) (cond (Nat.ble 32 pc) (cond (Nat.beq pc 32) (some (.getfield 89, 3, 1, 1, .null, [143])) none) (cond (Nat.beq pc 29) (some (.getfield 34, 3, 3, 5, .null, [156])) none))) (cond (Nat.ble 1 pc) (cond (Nat.ble 28 pc) (cond (Nat.beq pc 28) (some (.aload_n 0, 1, 0, 0, .null, [])) none) (cond (Nat.beq pc 1) (some (.lookupswitch 40 #[(13, 27), (14, 35)], 27, 0, 0, .null, [])) none)) (cond (Nat.beq pc 0) (some (.iload_n 1, 1, 0, 0, .null, [])) none)))
/-- BraidHorns.why()I -/
def xI_72 : Nat → Option xEn := fun pc => cond (Nat.ble 4 pc) (cond (Nat.ble 7 pc) (cond (Nat.beq pc 7) (some (.ireturn, 1, 0, 0, .null, [])) none) (cond (Nat.beq pc 4) (some (.invokevirtual 93, 3, 48, 0, .null, [368, 256, 257, 49])) none)) (cond (Nat.ble 1 pc) (cond (Nat.beq pc 1) (some (.getfield 10, 3, 3, 0, .null, [151])) none) (cond (Nat.beq pc 0) (some (.aload_n 0, 1, 0, 0, .null, [])) none))
/-- BraidHorns.meeting(I)I -/
def xI_73 : Nat → Option xEn := fun pc => cond (Nat.ble 52 pc) (cond (Nat.ble 78 pc) (cond (Nat.ble 90 pc) (cond (Nat.ble 98 pc) (cond (Nat.ble 103 pc) (cond (Nat.ble 106 pc) (cond (Nat.beq pc 106) (some (.ireturn, 1, 0, 0, .null, [])) none) (cond (Nat.beq pc 103) (some (.invokevirtual 116, 3, 39, 2, .null, [395, 396, 397, 49])) none)) (cond (Nat.ble 101 pc) (cond (Nat.beq pc 101) (some (.iload 5, 2, 0, 0, .null, [])) none) (cond (Nat.beq pc 98) (some (.invokestatic 113, 3, 4, 2, .null, [394, 229, 54])) none))) (cond (Nat.ble 95 pc) (cond (Nat.ble 97 pc) (cond (Nat.beq pc 97) (some (.iload_n 2, 1, 0, 0, .null, [])) none) (cond (Nat.beq pc 95) (some (.iload 7, 2, 0, 0, .null, [])) none)) (cond (Nat.ble 92 pc) (cond (Nat.beq pc 92) (some (.goto 9, 3, 101, 0, .null, [])) none) (cond (Nat.beq pc 90) (some (.iload 7, 2, 0, 0, .null, [])) none)))) (cond (Nat.ble 82 pc) (cond (Nat.ble 86 pc) (cond (Nat.ble 87 pc) (cond (Nat.beq pc 87) (some (.if_icmp .ne 8, 3, 95, 0, .null, [])) none) (cond (Nat.beq pc 86) (some (.iconst 2, 1, 0, 0, .int 2, [])) none)) (cond (Nat.ble 85 pc) (cond (Nat.beq pc 85) (some (.iload_n 1, 1, 0, 0, .null, [])) none) (cond (Nat.beq pc 82) (some (.getfield 10, 3, 3, 0, .null, [151])) none))) (cond (Nat.ble 79 pc) (cond (Nat.ble 81 pc) (cond (Nat.beq pc 81) (some (.aload_n 0, 1, 0, 0, .null, [])) none) (cond (Nat.beq pc 79) (some (.istore 7, 2, 0, 0, .null, [])) none)) (cond (Nat.beq pc 78) (some (.imul, 1, 0, 0, .null, [])) none)))) (cond (Nat.ble 67 pc) (cond (Nat.ble 72 pc) (cond (Nat.ble 75 pc) (cond (Nat.ble 76 pc) (cond (Nat.beq pc 76) (some (.iload 6, 2, 0, 0, .null, [])) none) (cond (Nat.beq pc 75) (some (.iconst 4, 1, 0, 0, .int 4, [])) none)) (cond (Nat.ble 74 pc) (cond (Nat.beq pc 74) (some (.ireturn, 1, 0, 0, .null, [])) none) (cond (Nat.beq pc 72) (some (.iload 6, 2, 0, 0, .null, [])) none))) (cond (Nat.ble 68 pc) (cond (Nat.ble 69 pc) (cond (Nat.beq pc 69) (some (.if_icmp .ne 6, 3, 75, 0, .null, [])) none) (cond (Nat.beq pc 68) (some (.iconst 1, 1, 0, 0, .int 1, [])) none)) (cond (Nat.beq pc 67) (some (.iload_n 1, 1, 0, 0, .null, [])) none))) (cond (Nat.ble 58 pc) (cond (Nat.ble 62 pc) (cond (Nat.ble 64 pc) (cond (Nat.beq pc 64) (some (.if_icmp .eq 8, 3, 72, 0, .null, [])) none) (cond (Nat.beq pc 62) (some (.bipush (-6), 2, 0, 0, .int (-6), [])) none)) (cond (Nat.ble 60 pc) (cond (Nat.beq pc 60) (some (.iload 6, 2, 0, 0, .null, [])) none) (cond (Nat.beq pc 58) (some (.istore 6, 2, 0, 0, .null, [])) none))) (cond (Nat.ble 53 pc) (cond (Nat.ble 55 pc) (cond (Nat.beq pc 55) (some (.invokestatic 110, 3, 15, 3, .null, [391, 392, 54])) none) (cond (Nat.beq pc 53) (some (.iload 5, 2, 0, 0, .null, [])) none)) (cond (Nat.beq pc 52) (some (.iload_n 2, 1, 0, 0, .null, [])) none))))) (cond (Nat.ble 27 pc) (cond (Nat.ble 39 pc) (cond (Nat.ble 45 pc) (cond (Nat.ble 50 pc) (cond (Nat.ble 51 pc) (cond (Nat.beq pc 51) (some (.lload_n 3, 1, 0, 0, .null, [])) none) (cond (Nat.beq pc 50) (some (.ireturn, 1, 0, 0, .null, [])) none)) (cond (Nat.ble 48 pc) (cond (Nat.beq pc 48) (some (.iload 5, 2, 0, 0, .null, [])) none) (cond (Nat.beq pc 45) (some (.ifCond .ne 6, 3, 51, 0, .null, [])) none))) (cond (Nat.ble 41 pc) (cond (Nat.ble 44 pc) (cond (Nat.beq pc 44) (some (.iload_n 1, 1, 0, 0, .null, [])) none) (cond (Nat.beq pc 41) (some (.if_icmp .eq 7, 3, 48, 0, .null, [])) none)) (cond (Nat.beq pc 39) (some (.bipush (-6), 2, 0, 0, .int (-6), [])) none))) (cond (Nat.ble 30 pc) (cond (Nat.ble 35 pc) (cond (Nat.ble 37 pc) (cond (Nat.beq pc 37) (some (.iload 5, 2, 0, 0, .null, [])) none) (cond (Nat.beq pc 35) (some (.istore 5, 2, 0, 0, .null, [])) none)) (cond (Nat.ble 32 pc) (cond (Nat.beq pc 32) (some (.invokestatic 104, 3, 14, 3, .null, [375, 376, 54])) none) (cond (Nat.beq pc 30) (some (.bipush 100, 2, 0, 0, .int 100, [])) none))) (cond (Nat.ble 28 pc) (cond (Nat.ble 29 pc) (cond (Nat.beq pc 29) (some (.iload_n 2, 1, 0, 0, .null, [])) none) (cond (Nat.beq pc 28) (some (.lload_n 3, 1, 0, 0, .null, [])) none)) (cond (Nat.beq pc 27) (some (.lstore_n 3, 1, 0, 0, .null, [])) none)))) (cond (Nat.ble 12 pc) (cond (Nat.ble 19 pc) (cond (Nat.ble 21 pc) (cond (Nat.ble 24 pc) (cond (Nat.beq pc 24) (some (.invokevirtual 100, 3, 41, 0, .null, [374, 222, 223, 49])) none) (cond (Nat.beq pc 21) (some (.getfield 10, 3, 3, 0, .null, [151])) none)) (cond (Nat.ble 20 pc) (cond (Nat.beq pc 20) (some (.aload_n 0, 1, 0, 0, .null, [])) none) (cond (Nat.beq pc 19) (some (.istore_n 2, 1, 0, 0, .null, [])) none))) (cond (Nat.ble 13 pc) (cond (Nat.ble 16 pc) (cond (Nat.beq pc 16) (some (.invokevirtual 97, 3, 34, 0, .null, [373, 218, 219, 49])) none) (cond (Nat.beq pc 13) (some (.getfield 10, 3, 3, 0, .null, [151])) none)) (cond (Nat.beq pc 12) (some (.aload_n 0, 1, 0, 0, .null, [])) none))) (cond (Nat.ble 5 pc) (cond (Nat.ble 9 pc) (cond (Nat.ble 11 pc) (cond (Nat.beq pc 11) (some (.ireturn, 1, 0, 0, .null, [])) none) (cond (Nat.beq pc 9) (some (.bipush (-2), 2, 0, 0, .int (-2), [])) none)) (cond (Nat.ble 6 pc) (cond (Nat.beq pc 6) (some (.if_icmp .le 6, 3, 12, 0, .null, [])) none) (cond (Nat.beq pc 5) (some (.iconst 3, 1, 0, 0, .int 3, [])) none))) (cond (Nat.ble 1 pc) (cond (Nat.ble 4 pc) (cond (Nat.beq pc 4) (some (.iload_n 1, 1, 0, 0, .null, [])) none) (cond (Nat.beq pc 1) (some (.ifCond .lt 8, 3, 9, 0, .null, [])) none)) (cond (Nat.beq pc 0) (some (.iload_n 1, 1, 0, 0, .null, [])) none)))))
/-- BraidHorns.free()I -/
def xI_74 : Nat → Option xEn := fun pc => cond (Nat.ble 24 pc) (cond (Nat.ble 34 pc) (cond (Nat.ble 43 pc) (cond (Nat.ble 49 pc) (cond (Nat.ble 51 pc) (cond (Nat.beq pc 51) (some (.ireturn, 1, 0, 0, .null, [])) none) (cond (Nat.beq pc 49) (some (.iload 4, 2, 0, 0, .null, [])) none)) (cond (Nat.ble 46 pc) (cond (Nat.beq pc 46) (some (.goto (-24), 3, 22, 0, .null, [])) none) (cond (Nat.beq pc 43) (some (.iinc 5 1, 3, 0, 0, .int (1), [])) none))) (cond (Nat.ble 37 pc) (cond (Nat.ble 40 pc) (cond (Nat.beq pc 40) (some (.iinc 4 1, 3, 0, 0, .int (1), [])) none) (cond (Nat.beq pc 37) (some (.ifCond .eq 6, 3, 43, 0, .null, [])) none)) (cond (Nat.beq pc 34) (some (.invokestatic 119, 3, 18, 3, .null, [409, 410, 54])) none))) (cond (Nat.ble 27 pc) (cond (Nat.ble 31 pc) (cond (Nat.ble 32 pc) (cond (Nat.beq pc 32) (some (.iload 5, 2, 0, 0, .null, [])) none) (cond (Nat.beq pc 31) (some (.iload_n 1, 1, 0, 0, .null, [])) none)) (cond (Nat.ble 30 pc) (cond (Nat.beq pc 30) (some (.lload_n 2, 1, 0, 0, .null, [])) none) (cond (Nat.beq pc 27) (some (.if_icmp .ge 22, 3, 49, 0, .null, [])) none))) (cond (Nat.ble 25 pc) (cond (Nat.ble 26 pc) (cond (Nat.beq pc 26) (some (.imul, 1, 0, 0, .null, [])) none) (cond (Nat.beq pc 25) (some (.iload_n 1, 1, 0, 0, .null, [])) none)) (cond (Nat.beq pc 24) (some (.iconst 4, 1, 0, 0, .int 4, [])) none)))) (cond (Nat.ble 12 pc) (cond (Nat.ble 17 pc) (cond (Nat.ble 20 pc) (cond (Nat.ble 22 pc) (cond (Nat.beq pc 22) (some (.iload 5, 2, 0, 0, .null, [])) none) (cond (Nat.beq pc 20) (some (.istore 5, 2, 0, 0, .null, [])) none)) (cond (Nat.ble 19 pc) (cond (Nat.beq pc 19) (some (.iconst 0, 1, 0, 0, .int 0, [])) none) (cond (Nat.beq pc 17) (some (.istore 4, 2, 0, 0, .null, [])) none))) (cond (Nat.ble 15 pc) (cond (Nat.ble 16 pc) (cond (Nat.beq pc 16) (some (.iconst 0, 1, 0, 0, .int 0, [])) none) (cond (Nat.beq pc 15) (some (.lstore_n 2, 1, 0, 0, .null, [])) none)) (cond (Nat.beq pc 12) (some (.invokevirtual 100, 3, 41, 0, .null, [374, 222, 223, 49])) none))) (cond (Nat.ble 7 pc) (cond (Nat.ble 8 pc) (cond (Nat.ble 9 pc) (cond (Nat.beq pc 9) (some (.getfield 10, 3, 3, 0, .null, [151])) none) (cond (Nat.beq pc 8) (some (.aload_n 0, 1, 0, 0, .null, [])) none)) (cond (Nat.beq pc 7) (some (.istore_n 1, 1, 0, 0, .null, [])) none)) (cond (Nat.ble 1 pc) (cond (Nat.ble 4 pc) (cond (Nat.beq pc 4) (some (.invokevirtual 97, 3, 34, 0, .null, [373, 218, 219, 49])) none) (cond (Nat.beq pc 1) (some (.getfield 10, 3, 3, 0, .null, [151])) none)) (cond (Nat.beq pc 0) (some (.aload_n 0, 1, 0, 0, .null, [])) none))))
/-- BraidHorns.firstFree()I -/
def xI_75 : Nat → Option xEn := fun pc => cond (Nat.ble 23 pc) (cond (Nat.ble 34 pc) (cond (Nat.ble 40 pc) (cond (Nat.ble 46 pc) (cond (Nat.ble 48 pc) (cond (Nat.beq pc 48) (some (.ireturn, 1, 0, 0, .null, [])) none) (cond (Nat.beq pc 46) (some (.bipush (-6), 2, 0, 0, .int (-6), [])) none)) (cond (Nat.ble 43 pc) (cond (Nat.beq pc 43) (some (.goto (-24), 3, 19, 0, .null, [])) none) (cond (Nat.beq pc 40) (some (.iinc 4 1, 3, 0, 0, .int (1), [])) none))) (cond (Nat.ble 37 pc) (cond (Nat.ble 39 pc) (cond (Nat.beq pc 39) (some (.ireturn, 1, 0, 0, .null, [])) none) (cond (Nat.beq pc 37) (some (.iload 4, 2, 0, 0, .null, [])) none)) (cond (Nat.beq pc 34) (some (.ifCond .eq 6, 3, 40, 0, .null, [])) none))) (cond (Nat.ble 28 pc) (cond (Nat.ble 29 pc) (cond (Nat.ble 31 pc) (cond (Nat.beq pc 31) (some (.invokestatic 119, 3, 18, 3, .null, [409, 410, 54])) none) (cond (Nat.beq pc 29) (some (.iload 4, 2, 0, 0, .null, [])) none)) (cond (Nat.beq pc 28) (some (.iload_n 1, 1, 0, 0, .null, [])) none)) (cond (Nat.ble 24 pc) (cond (Nat.ble 27 pc) (cond (Nat.beq pc 27) (some (.lload_n 2, 1, 0, 0, .null, [])) none) (cond (Nat.beq pc 24) (some (.if_icmp .ge 22, 3, 46, 0, .null, [])) none)) (cond (Nat.beq pc 23) (some (.imul, 1, 0, 0, .null, [])) none)))) (cond (Nat.ble 12 pc) (cond (Nat.ble 17 pc) (cond (Nat.ble 21 pc) (cond (Nat.ble 22 pc) (cond (Nat.beq pc 22) (some (.iload_n 1, 1, 0, 0, .null, [])) none) (cond (Nat.beq pc 21) (some (.iconst 4, 1, 0, 0, .int 4, [])) none)) (cond (Nat.ble 19 pc) (cond (Nat.beq pc 19) (some (.iload 4, 2, 0, 0, .null, [])) none) (cond (Nat.beq pc 17) (some (.istore 4, 2, 0, 0, .null, [])) none))) (cond (Nat.ble 15 pc) (cond (Nat.ble 16 pc) (cond (Nat.beq pc 16) (some (.iconst 0, 1, 0, 0, .int 0, [])) none) (cond (Nat.beq pc 15) (some (.lstore_n 2, 1, 0, 0, .null, [])) none)) (cond (Nat.beq pc 12) (some (.invokevirtual 100, 3, 41, 0, .null, [374, 222, 223, 49])) none))) (cond (Nat.ble 7 pc) (cond (Nat.ble 8 pc) (cond (Nat.ble 9 pc) (cond (Nat.beq pc 9) (some (.getfield 10, 3, 3, 0, .null, [151])) none) (cond (Nat.beq pc 8) (some (.aload_n 0, 1, 0, 0, .null, [])) none)) (cond (Nat.beq pc 7) (some (.istore_n 1, 1, 0, 0, .null, [])) none)) (cond (Nat.ble 1 pc) (cond (Nat.ble 4 pc) (cond (Nat.beq pc 4) (some (.invokevirtual 97, 3, 34, 0, .null, [373, 218, 219, 49])) none) (cond (Nat.beq pc 1) (some (.getfield 10, 3, 3, 0, .null, [151])) none)) (cond (Nat.beq pc 0) (some (.aload_n 0, 1, 0, 0, .null, [])) none))))
/-- BraidHorns.period()I -/
def xI_76 : Nat → Option xEn := fun pc => cond (Nat.ble 14 pc) (cond (Nat.ble 19 pc) (cond (Nat.ble 25 pc) (cond (Nat.ble 28 pc) (cond (Nat.beq pc 28) (some (.ireturn, 1, 0, 0, .null, [])) none) (cond (Nat.beq pc 25) (some (.invokestatic 123, 3, 16, 2, .null, [422, 423, 54])) none)) (cond (Nat.ble 22 pc) (cond (Nat.beq pc 22) (some (.invokevirtual 97, 3, 34, 0, .null, [373, 218, 219, 49])) none) (cond (Nat.beq pc 19) (some (.getfield 10, 3, 3, 0, .null, [151])) none))) (cond (Nat.ble 17 pc) (cond (Nat.ble 18 pc) (cond (Nat.beq pc 18) (some (.aload_n 0, 1, 0, 0, .null, [])) none) (cond (Nat.beq pc 17) (some (.lload_n 1, 1, 0, 0, .null, [])) none)) (cond (Nat.ble 16 pc) (cond (Nat.beq pc 16) (some (.ireturn, 1, 0, 0, .null, [])) none) (cond (Nat.beq pc 14) (some (.bipush (-5), 2, 0, 0, .int (-5), [])) none)))) (cond (Nat.ble 8 pc) (cond (Nat.ble 10 pc) (cond (Nat.ble 11 pc) (cond (Nat.beq pc 11) (some (.ifCond .ne 6, 3, 17, 0, .null, [])) none) (cond (Nat.beq pc 10) (some (.lcmp, 1, 0, 0, .null, [])) none)) (cond (Nat.ble 9 pc) (cond (Nat.beq pc 9) (some (.lconst 0, 1, 0, 0, .long 0, [])) none) (cond (Nat.beq pc 8) (some (.lload_n 1, 1, 0, 0, .null, [])) none))) (cond (Nat.ble 4 pc) (cond (Nat.ble 7 pc) (cond (Nat.beq pc 7) (some (.lstore_n 1, 1, 0, 0, .null, [])) none) (cond (Nat.beq pc 4) (some (.invokevirtual 100, 3, 41, 0, .null, [374, 222, 223, 49])) none)) (cond (Nat.ble 1 pc) (cond (Nat.beq pc 1) (some (.getfield 10, 3, 3, 0, .null, [151])) none) (cond (Nat.beq pc 0) (some (.aload_n 0, 1, 0, 0, .null, [])) none))))
/-- BraidHorns.lasts()I -/
def xI_77 : Nat → Option xEn := fun pc => cond (Nat.ble 28 pc) (cond (Nat.ble 42 pc) (cond (Nat.ble 49 pc) (cond (Nat.ble 51 pc) (cond (Nat.ble 52 pc) (cond (Nat.beq pc 52) (some (.ireturn, 1, 0, 0, .null, [])) none) (cond (Nat.beq pc 51) (some (.isub, 1, 0, 0, .null, [])) none)) (cond (Nat.ble 50 pc) (cond (Nat.beq pc 50) (some (.iconst 1, 1, 0, 0, .int 1, [])) none) (cond (Nat.beq pc 49) (some (.iload_n 2, 1, 0, 0, .null, [])) none))) (cond (Nat.ble 45 pc) (cond (Nat.ble 46 pc) (cond (Nat.beq pc 46) (some (.goto 6, 3, 52, 0, .null, [])) none) (cond (Nat.beq pc 45) (some (.iload_n 1, 1, 0, 0, .null, [])) none)) (cond (Nat.beq pc 42) (some (.if_icmp .ne 7, 3, 49, 0, .null, [])) none))) (cond (Nat.ble 35 pc) (cond (Nat.ble 39 pc) (cond (Nat.ble 40 pc) (cond (Nat.beq pc 40) (some (.bipush (-6), 2, 0, 0, .int (-6), [])) none) (cond (Nat.beq pc 39) (some (.iload_n 2, 1, 0, 0, .null, [])) none)) (cond (Nat.ble 38 pc) (cond (Nat.beq pc 38) (some (.istore_n 2, 1, 0, 0, .null, [])) none) (cond (Nat.beq pc 35) (some (.invokestatic 104, 3, 14, 3, .null, [375, 376, 54])) none))) (cond (Nat.ble 31 pc) (cond (Nat.ble 34 pc) (cond (Nat.beq pc 34) (some (.iload_n 1, 1, 0, 0, .null, [])) none) (cond (Nat.beq pc 31) (some (.invokevirtual 97, 3, 34, 0, .null, [373, 218, 219, 49])) none)) (cond (Nat.beq pc 28) (some (.getfield 10, 3, 3, 0, .null, [151])) none)))) (cond (Nat.ble 13 pc) (cond (Nat.ble 20 pc) (cond (Nat.ble 24 pc) (cond (Nat.ble 27 pc) (cond (Nat.beq pc 27) (some (.aload_n 0, 1, 0, 0, .null, [])) none) (cond (Nat.beq pc 24) (some (.invokevirtual 100, 3, 41, 0, .null, [374, 222, 223, 49])) none)) (cond (Nat.ble 21 pc) (cond (Nat.beq pc 21) (some (.getfield 10, 3, 3, 0, .null, [151])) none) (cond (Nat.beq pc 20) (some (.aload_n 0, 1, 0, 0, .null, [])) none))) (cond (Nat.ble 16 pc) (cond (Nat.ble 19 pc) (cond (Nat.beq pc 19) (some (.istore_n 1, 1, 0, 0, .null, [])) none) (cond (Nat.beq pc 16) (some (.invokevirtual 127, 3, 47, 0, .null, [429, 264, 265, 49])) none)) (cond (Nat.beq pc 13) (some (.getfield 10, 3, 3, 0, .null, [151])) none))) (cond (Nat.ble 7 pc) (cond (Nat.ble 11 pc) (cond (Nat.ble 12 pc) (cond (Nat.beq pc 12) (some (.aload_n 0, 1, 0, 0, .null, [])) none) (cond (Nat.beq pc 11) (some (.ireturn, 1, 0, 0, .null, [])) none)) (cond (Nat.ble 10 pc) (cond (Nat.beq pc 10) (some (.iconst 0, 1, 0, 0, .int 0, [])) none) (cond (Nat.beq pc 7) (some (.ifCond .eq 5, 3, 12, 0, .null, [])) none))) (cond (Nat.ble 1 pc) (cond (Nat.ble 4 pc) (cond (Nat.beq pc 4) (some (.invokevirtual 93, 3, 48, 0, .null, [368, 256, 257, 49])) none) (cond (Nat.beq pc 1) (some (.getfield 10, 3, 3, 0, .null, [151])) none)) (cond (Nat.beq pc 0) (some (.aload_n 0, 1, 0, 0, .null, [])) none))))
/-- BraidHorns.put(J)I -/
def xI_78 : Nat → Option xEn := fun pc => cond (Nat.ble 4 pc) (cond (Nat.ble 5 pc) (cond (Nat.ble 8 pc) (cond (Nat.beq pc 8) (some (.ireturn, 1, 0, 0, .null, [])) none) (cond (Nat.beq pc 5) (some (.invokevirtual 130, 3, 21, 1, .null, [434, 435, 436, 51])) none)) (cond (Nat.beq pc 4) (some (.lload_n 1, 1, 0, 0, .null, [])) none)) (cond (Nat.ble 1 pc) (cond (Nat.beq pc 1) (some (.getfield 34, 3, 3, 5, .null, [156])) none) (cond (Nat.beq pc 0) (some (.aload_n 0, 1, 0, 0, .null, [])) none))
/-- BraidHorns.wipe()I -/
def xI_79 : Nat → Option xEn := fun pc => cond (Nat.ble 4 pc) (cond (Nat.ble 7 pc) (cond (Nat.beq pc 7) (some (.ireturn, 1, 0, 0, .null, [])) none) (cond (Nat.beq pc 4) (some (.invokevirtual 134, 3, 22, 0, .null, [448, 449, 450, 51])) none)) (cond (Nat.ble 1 pc) (cond (Nat.beq pc 1) (some (.getfield 34, 3, 3, 5, .null, [156])) none) (cond (Nat.beq pc 0) (some (.aload_n 0, 1, 0, 0, .null, [])) none))
/-- BraidHorns.fault()I -/
def xI_80 : Nat → Option xEn := fun pc => cond (Nat.ble 4 pc) (cond (Nat.ble 7 pc) (cond (Nat.beq pc 7) (some (.ireturn, 1, 0, 0, .null, [])) none) (cond (Nat.beq pc 4) (some (.invokevirtual 137, 3, 26, 0, .null, [456, 457, 458, 51])) none)) (cond (Nat.ble 1 pc) (cond (Nat.beq pc 1) (some (.getfield 34, 3, 3, 5, .null, [156])) none) (cond (Nat.beq pc 0) (some (.aload_n 0, 1, 0, 0, .null, [])) none))
/-- BraidHorns.carryOutOrder(I)I -/
def xI_81 : Nat → Option xEn := fun pc => cond (Nat.ble 99 pc) (cond (Nat.ble 121 pc) (cond (Nat.ble 131 pc) (cond (Nat.ble 136 pc) (cond (Nat.ble 140 pc) (cond (Nat.ble 142 pc) (cond (Nat.beq pc 142) (some (.ireturn, 1, 0, 0, .null, [])) none) (cond (Nat.beq pc 140) (some (.bipush (-3), 2, 0, 0, .int (-3), [])) none)) (cond (Nat.ble 139 pc) (cond (Nat.beq pc 139) (some (.ireturn, 1, 0, 0, .null, [])) none) (cond (Nat.beq pc 136) (some (.invokevirtual 64, 3, 56, 1, .null, [318, 319, 320, 49])) none))) (cond (Nat.ble 132 pc) (cond (Nat.ble 135 pc) (cond (Nat.beq pc 135) (some (.iload_n 2, 1, 0, 0, .null, [])) none) (cond (Nat.beq pc 132) (some (.getfield 10, 3, 3, 0, .null, [151])) none)) (cond (Nat.beq pc 131) (some (.aload_n 0, 1, 0, 0, .null, [])) none))) (cond (Nat.ble 126 pc) (cond (Nat.ble 127 pc) (cond (Nat.ble 130 pc) (cond (Nat.beq pc 130) (some (.ireturn, 1, 0, 0, .null, [])) none) (cond (Nat.beq pc 127) (some (.invokevirtual 61, 3, 55, 1, .null, [310, 311, 312, 49])) none)) (cond (Nat.beq pc 126) (some (.iload_n 2, 1, 0, 0, .null, [])) none)) (cond (Nat.ble 122 pc) (cond (Nat.ble 123 pc) (cond (Nat.beq pc 123) (some (.getfield 10, 3, 3, 0, .null, [151])) none) (cond (Nat.beq pc 122) (some (.aload_n 0, 1, 0, 0, .null, [])) none)) (cond (Nat.beq pc 121) (some (.ireturn, 1, 0, 0, .null, [])) none)))) (cond (Nat.ble 109 pc) (cond (Nat.ble 114 pc) (cond (Nat.ble 117 pc) (cond (Nat.ble 118 pc) (cond (Nat.beq pc 118) (some (.invokevirtual 58, 3, 54, 1, .null, [302, 303, 304, 49])) none) (cond (Nat.beq pc 117) (some (.iload_n 2, 1, 0, 0, .null, [])) none)) (cond (Nat.beq pc 114) (some (.getfield 10, 3, 3, 0, .null, [151])) none)) (cond (Nat.ble 112 pc) (cond (Nat.ble 113 pc) (cond (Nat.beq pc 113) (some (.aload_n 0, 1, 0, 0, .null, [])) none) (cond (Nat.beq pc 112) (some (.ireturn, 1, 0, 0, .null, [])) none)) (cond (Nat.beq pc 109) (some (.invokevirtual 55, 3, 53, 1, .null, [251, 252, 253, 49])) none))) (cond (Nat.ble 104 pc) (cond (Nat.ble 105 pc) (cond (Nat.ble 108 pc) (cond (Nat.beq pc 108) (some (.iload_n 2, 1, 0, 0, .null, [])) none) (cond (Nat.beq pc 105) (some (.getfield 10, 3, 3, 0, .null, [151])) none)) (cond (Nat.beq pc 104) (some (.aload_n 0, 1, 0, 0, .null, [])) none)) (cond (Nat.ble 100 pc) (cond (Nat.ble 103 pc) (cond (Nat.beq pc 103) (some (.ireturn, 1, 0, 0, .null, [])) none) (cond (Nat.beq pc 100) (some (.invokevirtual 52, 3, 51, 1, .null, [239, 240, 241, 49])) none)) (cond (Nat.beq pc 99) (some (.iload_n 2, 1, 0, 0, .null, [])) none))))) (cond (Nat.ble 76 pc) (cond (Nat.ble 86 pc) (cond (Nat.ble 91 pc) (cond (Nat.ble 95 pc) (cond (Nat.ble 96 pc) (cond (Nat.beq pc 96) (some (.getfield 10, 3, 3, 0, .null, [151])) none) (cond (Nat.beq pc 95) (some (.aload_n 0, 1, 0, 0, .null, [])) none)) (cond (Nat.ble 94 pc) (cond (Nat.beq pc 94) (some (.ireturn, 1, 0, 0, .null, [])) none) (cond (Nat.beq pc 91) (some (.invokevirtual 49, 3, 50, 2, .null, [209, 210, 211, 49])) none))) (cond (Nat.ble 87 pc) (cond (Nat.ble 88 pc) (cond (Nat.beq pc 88) (some (.invokevirtual 160, 3, 30, 1, .null, [490, 491, 492, 51])) none) (cond (Nat.beq pc 87) (some (.iadd, 1, 0, 0, .null, [])) none)) (cond (Nat.beq pc 86) (some (.iconst 1, 1, 0, 0, .int 1, [])) none))) (cond (Nat.ble 81 pc) (cond (Nat.ble 82 pc) (cond (Nat.ble 85 pc) (cond (Nat.beq pc 85) (some (.iload_n 1, 1, 0, 0, .null, [])) none) (cond (Nat.beq pc 82) (some (.getfield 34, 3, 3, 5, .null, [156])) none)) (cond (Nat.beq pc 81) (some (.aload_n 0, 1, 0, 0, .null, [])) none)) (cond (Nat.ble 77 pc) (cond (Nat.ble 80 pc) (cond (Nat.beq pc 80) (some (.iload_n 2, 1, 0, 0, .null, [])) none) (cond (Nat.beq pc 77) (some (.getfield 10, 3, 3, 0, .null, [151])) none)) (cond (Nat.beq pc 76) (some (.aload_n 0, 1, 0, 0, .null, [])) none)))) (cond (Nat.ble 10 pc) (cond (Nat.ble 15 pc) (cond (Nat.ble 16 pc) (cond (Nat.ble 19 pc) (cond (Nat.beq pc 19) (some (.lookupswitch 121 #[(98, 94), (99, 57), (102, 112), (107, 103), (114, 85), (120, 76)], 57, 0, 0, .null, [])) none) (cond (Nat.beq pc 16) (some (.invokevirtual 156, 3, 27, 1, .null, [489, 486, 487, 51])) none)) (cond (Nat.beq pc 15) (some (.iload_n 1, 1, 0, 0, .null, [])) none)) (cond (Nat.ble 11 pc) (cond (Nat.ble 12 pc) (cond (Nat.beq pc 12) (some (.getfield 34, 3, 3, 5, .null, [156])) none) (cond (Nat.beq pc 11) (some (.aload_n 0, 1, 0, 0, .null, [])) none)) (cond (Nat.beq pc 10) (some (.istore_n 2, 1, 0, 0, .null, [])) none))) (cond (Nat.ble 5 pc) (cond (Nat.ble 6 pc) (cond (Nat.ble 7 pc) (cond (Nat.beq pc 7) (some (.invokevirtual 153, 3, 29, 1, .null, [477, 478, 479, 51])) none) (cond (Nat.beq pc 6) (some (.iadd, 1, 0, 0, .null, [])) none)) (cond (Nat.beq pc 5) (some (.iconst 1, 1, 0, 0, .int 1, [])) none)) (cond (Nat.ble 1 pc) (cond (Nat.ble 4 pc) (cond (Nat.beq pc 4) (some (.iload_n 1, 1, 0, 0, .null, [])) none) (cond (Nat.beq pc 1) (some (.getfield 34, 3, 3, 5, .null, [156])) none)) (cond (Nat.beq pc 0) (some (.aload_n 0, 1, 0, 0, .null, [])) none)))))
/-- BraidHorns.carryOut()I -/
def xI_82 : Nat → Option xEn := fun pc => cond (Nat.ble 34 pc) (cond (Nat.ble 53 pc) (cond (Nat.ble 64 pc) (cond (Nat.ble 66 pc) (cond (Nat.ble 67 pc) (cond (Nat.ble 70 pc) (cond (Nat.beq pc 70) (some (.ireturn, 1, 0, 0, .null, [])) none) (cond (Nat.beq pc 67) (some (.invokevirtual 45, 3, 60, 1, .null, [201, 203, 1, 48])) none)) (cond (Nat.beq pc 66) (some (.iload_n 1, 1, 0, 0, .null, [])) none)) (cond (Nat.ble 65 pc) (cond (Nat.beq pc 65) (some (.aload_n 0, 1, 0, 0, .null, [])) none) (cond (Nat.beq pc 64) (some (.pop, 1, 0, 0, .null, [])) none))) (cond (Nat.ble 57 pc) (cond (Nat.ble 58 pc) (cond (Nat.ble 61 pc) (cond (Nat.beq pc 61) (some (.invokevirtual 134, 3, 22, 0, .null, [448, 449, 450, 51])) none) (cond (Nat.beq pc 58) (some (.getfield 34, 3, 3, 5, .null, [156])) none)) (cond (Nat.beq pc 57) (some (.aload_n 0, 1, 0, 0, .null, [])) none)) (cond (Nat.ble 54 pc) (cond (Nat.beq pc 54) (some (.goto (-31), 3, 23, 0, .null, [])) none) (cond (Nat.beq pc 53) (some (.istore_n 2, 1, 0, 0, .null, [])) none)))) (cond (Nat.ble 42 pc) (cond (Nat.ble 46 pc) (cond (Nat.ble 49 pc) (cond (Nat.ble 50 pc) (cond (Nat.beq pc 50) (some (.invokevirtual 143, 3, 31, 1, .null, [495, 496, 497, 51])) none) (cond (Nat.beq pc 49) (some (.iload_n 2, 1, 0, 0, .null, [])) none)) (cond (Nat.beq pc 46) (some (.getfield 34, 3, 3, 5, .null, [156])) none)) (cond (Nat.ble 45 pc) (cond (Nat.beq pc 45) (some (.aload_n 0, 1, 0, 0, .null, [])) none) (cond (Nat.beq pc 42) (some (.iinc 1 1, 3, 0, 0, .int (1), [])) none))) (cond (Nat.ble 36 pc) (cond (Nat.ble 39 pc) (cond (Nat.beq pc 39) (some (.ifCond .lt 18, 3, 57, 0, .null, [])) none) (cond (Nat.beq pc 36) (some (.invokevirtual 140, 3, 81, 1, .null, [473, 475, 6, 48])) none)) (cond (Nat.ble 35 pc) (cond (Nat.beq pc 35) (some (.iload_n 2, 1, 0, 0, .null, [])) none) (cond (Nat.beq pc 34) (some (.aload_n 0, 1, 0, 0, .null, [])) none))))) (cond (Nat.ble 19 pc) (cond (Nat.ble 23 pc) (cond (Nat.ble 25 pc) (cond (Nat.ble 28 pc) (cond (Nat.ble 31 pc) (cond (Nat.beq pc 31) (some (.if_icmp .ge 26, 3, 57, 0, .null, [])) none) (cond (Nat.beq pc 28) (some (.getfield 89, 3, 1, 1, .null, [143])) none)) (cond (Nat.beq pc 25) (some (.getfield 34, 3, 3, 5, .null, [156])) none)) (cond (Nat.ble 24 pc) (cond (Nat.beq pc 24) (some (.aload_n 0, 1, 0, 0, .null, [])) none) (cond (Nat.beq pc 23) (some (.iload_n 2, 1, 0, 0, .null, [])) none))) (cond (Nat.ble 21 pc) (cond (Nat.ble 22 pc) (cond (Nat.beq pc 22) (some (.istore_n 2, 1, 0, 0, .null, [])) none) (cond (Nat.beq pc 21) (some (.iconst 0, 1, 0, 0, .int 0, [])) none)) (cond (Nat.ble 20 pc) (cond (Nat.beq pc 20) (some (.istore_n 1, 1, 0, 0, .null, [])) none) (cond (Nat.beq pc 19) (some (.iconst 0, 1, 0, 0, .int 0, [])) none)))) (cond (Nat.ble 9 pc) (cond (Nat.ble 14 pc) (cond (Nat.ble 15 pc) (cond (Nat.ble 16 pc) (cond (Nat.beq pc 16) (some (.invokevirtual 38, 3, 59, 0, .null, [174, 176, 0, 48])) none) (cond (Nat.beq pc 15) (some (.aload_n 0, 1, 0, 0, .null, [])) none)) (cond (Nat.beq pc 14) (some (.ireturn, 1, 0, 0, .null, [])) none)) (cond (Nat.ble 12 pc) (cond (Nat.beq pc 12) (some (.bipush (-3), 2, 0, 0, .int (-3), [])) none) (cond (Nat.beq pc 9) (some (.if_icmp .eq 6, 3, 15, 0, .null, [])) none))) (cond (Nat.ble 4 pc) (cond (Nat.ble 7 pc) (cond (Nat.beq pc 7) (some (.bipush (-6), 2, 0, 0, .int (-6), [])) none) (cond (Nat.beq pc 4) (some (.invokevirtual 137, 3, 26, 0, .null, [456, 457, 458, 51])) none)) (cond (Nat.ble 1 pc) (cond (Nat.beq pc 1) (some (.getfield 34, 3, 3, 5, .null, [156])) none) (cond (Nat.beq pc 0) (some (.aload_n 0, 1, 0, 0, .null, [])) none)))))
/-- BraidHorns.undo()I -/
def xI_83 : Nat → Option xEn := fun pc => cond (Nat.ble 20 pc) (cond (Nat.ble 29 pc) (cond (Nat.ble 36 pc) (cond (Nat.ble 37 pc) (cond (Nat.ble 40 pc) (cond (Nat.beq pc 40) (some (.ireturn, 1, 0, 0, .null, [])) none) (cond (Nat.beq pc 37) (some (.getfield 20, 3, 3, 2, .null, [153])) none)) (cond (Nat.beq pc 36) (some (.aload_n 0, 1, 0, 0, .null, [])) none)) (cond (Nat.ble 32 pc) (cond (Nat.ble 33 pc) (cond (Nat.beq pc 33) (some (.invokevirtual 146, 3, 33, 1, .null, [178, 179, 180, 49])) none) (cond (Nat.beq pc 32) (some (.aaload, 1, 0, 0, .null, [])) none)) (cond (Nat.beq pc 29) (some (.getfield 20, 3, 3, 2, .null, [153])) none))) (cond (Nat.ble 24 pc) (cond (Nat.ble 25 pc) (cond (Nat.ble 28 pc) (cond (Nat.beq pc 28) (some (.aload_n 0, 1, 0, 0, .null, [])) none) (cond (Nat.beq pc 25) (some (.getfield 16, 3, 3, 1, .null, [152])) none)) (cond (Nat.beq pc 24) (some (.aload_n 0, 1, 0, 0, .null, [])) none)) (cond (Nat.ble 21 pc) (cond (Nat.beq pc 21) (some (.getfield 10, 3, 3, 0, .null, [151])) none) (cond (Nat.beq pc 20) (some (.aload_n 0, 1, 0, 0, .null, [])) none)))) (cond (Nat.ble 10 pc) (cond (Nat.ble 15 pc) (cond (Nat.ble 16 pc) (cond (Nat.ble 17 pc) (cond (Nat.beq pc 17) (some (.putfield 20, 3, 3, 2, .null, [153])) none) (cond (Nat.beq pc 16) (some (.isub, 1, 0, 0, .null, [])) none)) (cond (Nat.beq pc 15) (some (.iconst 1, 1, 0, 0, .int 1, [])) none)) (cond (Nat.ble 11 pc) (cond (Nat.ble 12 pc) (cond (Nat.beq pc 12) (some (.getfield 20, 3, 3, 2, .null, [153])) none) (cond (Nat.beq pc 11) (some (.dup, 1, 0, 0, .null, [])) none)) (cond (Nat.beq pc 10) (some (.aload_n 0, 1, 0, 0, .null, [])) none))) (cond (Nat.ble 4 pc) (cond (Nat.ble 7 pc) (cond (Nat.ble 9 pc) (cond (Nat.beq pc 9) (some (.ireturn, 1, 0, 0, .null, [])) none) (cond (Nat.beq pc 7) (some (.bipush (-5), 2, 0, 0, .int (-5), [])) none)) (cond (Nat.beq pc 4) (some (.ifCond .ne 6, 3, 10, 0, .null, [])) none)) (cond (Nat.ble 1 pc) (cond (Nat.beq pc 1) (some (.getfield 20, 3, 3, 2, .null, [153])) none) (cond (Nat.beq pc 0) (some (.aload_n 0, 1, 0, 0, .null, [])) none))))
/-- BraidHorns.save(I)I -/
def xI_84 : Nat → Option xEn := fun pc => cond (Nat.ble 18 pc) (cond (Nat.ble 30 pc) (cond (Nat.ble 33 pc) (cond (Nat.ble 36 pc) (cond (Nat.ble 39 pc) (cond (Nat.beq pc 39) (some (.ireturn, 1, 0, 0, .null, [])) none) (cond (Nat.beq pc 36) (some (.invokevirtual 150, 3, 44, 0, .null, [507, 508, 509, 49])) none)) (cond (Nat.beq pc 33) (some (.getfield 10, 3, 3, 0, .null, [151])) none)) (cond (Nat.ble 31 pc) (cond (Nat.ble 32 pc) (cond (Nat.beq pc 32) (some (.aload_n 0, 1, 0, 0, .null, [])) none) (cond (Nat.beq pc 31) (some (.bastore, 1, 0, 0, .null, [])) none)) (cond (Nat.beq pc 30) (some (.iconst 1, 1, 0, 0, .int 1, [])) none))) (cond (Nat.ble 25 pc) (cond (Nat.ble 26 pc) (cond (Nat.ble 29 pc) (cond (Nat.beq pc 29) (some (.iload_n 1, 1, 0, 0, .null, [])) none) (cond (Nat.beq pc 26) (some (.getfield 27, 3, 3, 4, .null, [155])) none)) (cond (Nat.beq pc 25) (some (.aload_n 0, 1, 0, 0, .null, [])) none)) (cond (Nat.ble 19 pc) (cond (Nat.ble 22 pc) (cond (Nat.beq pc 22) (some (.invokevirtual 146, 3, 33, 1, .null, [178, 179, 180, 49])) none) (cond (Nat.beq pc 19) (some (.getfield 10, 3, 3, 0, .null, [151])) none)) (cond (Nat.beq pc 18) (some (.aload_n 0, 1, 0, 0, .null, [])) none)))) (cond (Nat.ble 9 pc) (cond (Nat.ble 13 pc) (cond (Nat.ble 16 pc) (cond (Nat.ble 17 pc) (cond (Nat.beq pc 17) (some (.aaload, 1, 0, 0, .null, [])) none) (cond (Nat.beq pc 16) (some (.iload_n 1, 1, 0, 0, .null, [])) none)) (cond (Nat.beq pc 13) (some (.getfield 24, 3, 3, 3, .null, [154])) none)) (cond (Nat.ble 11 pc) (cond (Nat.ble 12 pc) (cond (Nat.beq pc 12) (some (.aload_n 0, 1, 0, 0, .null, [])) none) (cond (Nat.beq pc 11) (some (.ireturn, 1, 0, 0, .null, [])) none)) (cond (Nat.beq pc 9) (some (.bipush (-2), 2, 0, 0, .int (-2), [])) none))) (cond (Nat.ble 4 pc) (cond (Nat.ble 5 pc) (cond (Nat.ble 6 pc) (cond (Nat.beq pc 6) (some (.if_icmp .lt 6, 3, 12, 0, .null, [])) none) (cond (Nat.beq pc 5) (some (.iconst 2, 1, 0, 0, .int 2, [])) none)) (cond (Nat.beq pc 4) (some (.iload_n 1, 1, 0, 0, .null, [])) none)) (cond (Nat.ble 1 pc) (cond (Nat.beq pc 1) (some (.ifCond .lt 8, 3, 9, 0, .null, [])) none) (cond (Nat.beq pc 0) (some (.iload_n 1, 1, 0, 0, .null, [])) none))))
/-- BraidHorns.restore(I)I -/
def xI_85 : Nat → Option xEn := fun pc => cond (Nat.ble 24 pc) (cond (Nat.ble 37 pc) (cond (Nat.ble 43 pc) (cond (Nat.ble 49 pc) (cond (Nat.ble 52 pc) (cond (Nat.beq pc 52) (some (.ireturn, 1, 0, 0, .null, [])) none) (cond (Nat.beq pc 49) (some (.invokevirtual 45, 3, 60, 1, .null, [201, 203, 1, 48])) none)) (cond (Nat.ble 46 pc) (cond (Nat.beq pc 46) (some (.invokevirtual 150, 3, 44, 0, .null, [507, 508, 509, 49])) none) (cond (Nat.beq pc 43) (some (.getfield 10, 3, 3, 0, .null, [151])) none))) (cond (Nat.ble 41 pc) (cond (Nat.ble 42 pc) (cond (Nat.beq pc 42) (some (.aload_n 0, 1, 0, 0, .null, [])) none) (cond (Nat.beq pc 41) (some (.aload_n 0, 1, 0, 0, .null, [])) none)) (cond (Nat.ble 38 pc) (cond (Nat.beq pc 38) (some (.invokevirtual 146, 3, 33, 1, .null, [178, 179, 180, 49])) none) (cond (Nat.beq pc 37) (some (.aaload, 1, 0, 0, .null, [])) none)))) (cond (Nat.ble 29 pc) (cond (Nat.ble 33 pc) (cond (Nat.ble 36 pc) (cond (Nat.beq pc 36) (some (.iload_n 1, 1, 0, 0, .null, [])) none) (cond (Nat.beq pc 33) (some (.getfield 24, 3, 3, 3, .null, [154])) none)) (cond (Nat.ble 32 pc) (cond (Nat.beq pc 32) (some (.aload_n 0, 1, 0, 0, .null, [])) none) (cond (Nat.beq pc 29) (some (.getfield 10, 3, 3, 0, .null, [151])) none))) (cond (Nat.ble 25 pc) (cond (Nat.ble 28 pc) (cond (Nat.beq pc 28) (some (.aload_n 0, 1, 0, 0, .null, [])) none) (cond (Nat.beq pc 25) (some (.invokevirtual 38, 3, 59, 0, .null, [174, 176, 0, 48])) none)) (cond (Nat.beq pc 24) (some (.aload_n 0, 1, 0, 0, .null, [])) none)))) (cond (Nat.ble 12 pc) (cond (Nat.ble 17 pc) (cond (Nat.ble 21 pc) (cond (Nat.ble 23 pc) (cond (Nat.beq pc 23) (some (.ireturn, 1, 0, 0, .null, [])) none) (cond (Nat.beq pc 21) (some (.bipush (-5), 2, 0, 0, .int (-5), [])) none)) (cond (Nat.ble 18 pc) (cond (Nat.beq pc 18) (some (.ifCond .ne 6, 3, 24, 0, .null, [])) none) (cond (Nat.beq pc 17) (some (.baload, 1, 0, 0, .null, [])) none))) (cond (Nat.ble 13 pc) (cond (Nat.ble 16 pc) (cond (Nat.beq pc 16) (some (.iload_n 1, 1, 0, 0, .null, [])) none) (cond (Nat.beq pc 13) (some (.getfield 27, 3, 3, 4, .null, [155])) none)) (cond (Nat.beq pc 12) (some (.aload_n 0, 1, 0, 0, .null, [])) none))) (cond (Nat.ble 5 pc) (cond (Nat.ble 9 pc) (cond (Nat.ble 11 pc) (cond (Nat.beq pc 11) (some (.ireturn, 1, 0, 0, .null, [])) none) (cond (Nat.beq pc 9) (some (.bipush (-2), 2, 0, 0, .int (-2), [])) none)) (cond (Nat.ble 6 pc) (cond (Nat.beq pc 6) (some (.if_icmp .lt 6, 3, 12, 0, .null, [])) none) (cond (Nat.beq pc 5) (some (.iconst 2, 1, 0, 0, .int 2, [])) none))) (cond (Nat.ble 1 pc) (cond (Nat.ble 4 pc) (cond (Nat.beq pc 4) (some (.iload_n 1, 1, 0, 0, .null, [])) none) (cond (Nat.beq pc 1) (some (.ifCond .lt 8, 3, 9, 0, .null, [])) none)) (cond (Nat.beq pc 0) (some (.iload_n 1, 1, 0, 0, .null, [])) none))))
/-- BraidHornsModel.lay(III)V -/
def xI_86 : Nat → Option xEn := fun pc => cond (Nat.ble 10 pc) (cond (Nat.ble 13 pc) (cond (Nat.ble 14 pc) (cond (Nat.ble 15 pc) (cond (Nat.beq pc 15) (some (.return_, 1, 0, 0, .null, [])) none) (cond (Nat.beq pc 14) (some (.iastore, 1, 0, 0, .null, [])) none)) (cond (Nat.beq pc 13) (some (.iload_n 3, 1, 0, 0, .null, [])) none)) (cond (Nat.ble 11 pc) (cond (Nat.ble 12 pc) (cond (Nat.beq pc 12) (some (.iadd, 1, 0, 0, .null, [])) none) (cond (Nat.beq pc 11) (some (.iload_n 2, 1, 0, 0, .null, [])) none)) (cond (Nat.beq pc 10) (some (.iadd, 1, 0, 0, .null, [])) none))) (cond (Nat.ble 6 pc) (cond (Nat.ble 8 pc) (cond (Nat.ble 9 pc) (cond (Nat.beq pc 9) (some (.imul, 1, 0, 0, .null, [])) none) (cond (Nat.beq pc 8) (some (.iload_n 1, 1, 0, 0, .null, [])) none)) (cond (Nat.beq pc 6) (some (.bipush 7, 2, 0, 0, .int 7, [])) none)) (cond (Nat.ble 1 pc) (cond (Nat.ble 4 pc) (cond (Nat.beq pc 4) (some (.bipush 10, 2, 0, 0, .int 10, [])) none) (cond (Nat.beq pc 1) (some (.getfield 7, 3, 4, 0, .null, [531])) none)) (cond (Nat.beq pc 0) (some (.aload_n 0, 1, 0, 0, .null, [])) none)))
/-- BraidHornsModel.<init>()V -/
def xI_87 : Nat → Option xEn := fun pc => cond (Nat.ble 58 pc) (cond (Nat.ble 80 pc) (cond (Nat.ble 91 pc) (cond (Nat.ble 96 pc) (cond (Nat.ble 102 pc) (cond (Nat.ble 105 pc) (cond (Nat.beq pc 105) (some (.return_, 1, 0, 0, .null, [])) none) (cond (Nat.beq pc 102) (some (.goto (-17), 3, 85, 0, .null, [])) none)) (cond (Nat.ble 99 pc) (cond (Nat.beq pc 99) (some (.iinc 1 1, 3, 0, 0, .int (1), [])) none) (cond (Nat.beq pc 96) (some (.invokevirtual 32, 3, 86, 3, .null, [527, 529, 8, 52])) none))) (cond (Nat.ble 93 pc) (cond (Nat.ble 94 pc) (cond (Nat.beq pc 94) (some (.bipush (-6), 2, 0, 0, .int (-6), [])) none) (cond (Nat.beq pc 93) (some (.iconst 0, 1, 0, 0, .int 0, [])) none)) (cond (Nat.ble 92 pc) (cond (Nat.beq pc 92) (some (.iload_n 1, 1, 0, 0, .null, [])) none) (cond (Nat.beq pc 91) (some (.aload_n 0, 1, 0, 0, .null, [])) none)))) (cond (Nat.ble 84 pc) (cond (Nat.ble 86 pc) (cond (Nat.ble 88 pc) (cond (Nat.beq pc 88) (some (.if_icmp .ge 17, 3, 105, 0, .null, [])) none) (cond (Nat.beq pc 86) (some (.bipush 10, 2, 0, 0, .int 10, [])) none)) (cond (Nat.ble 85 pc) (cond (Nat.beq pc 85) (some (.iload_n 1, 1, 0, 0, .null, [])) none) (cond (Nat.beq pc 84) (some (.istore_n 1, 1, 0, 0, .null, [])) none))) (cond (Nat.ble 82 pc) (cond (Nat.ble 83 pc) (cond (Nat.beq pc 83) (some (.iconst 0, 1, 0, 0, .int 0, [])) none) (cond (Nat.beq pc 82) (some (.iastore, 1, 0, 0, .null, [])) none)) (cond (Nat.beq pc 80) (some (.bipush 60, 2, 0, 0, .int 60, [])) none)))) (cond (Nat.ble 69 pc) (cond (Nat.ble 74 pc) (cond (Nat.ble 76 pc) (cond (Nat.ble 79 pc) (cond (Nat.beq pc 79) (some (.iconst 2, 1, 0, 0, .int 2, [])) none) (cond (Nat.beq pc 76) (some (.getfield 7, 3, 4, 0, .null, [531])) none)) (cond (Nat.ble 75 pc) (cond (Nat.beq pc 75) (some (.aload_n 0, 1, 0, 0, .null, [])) none) (cond (Nat.beq pc 74) (some (.iastore, 1, 0, 0, .null, [])) none))) (cond (Nat.ble 72 pc) (cond (Nat.ble 73 pc) (cond (Nat.beq pc 73) (some (.iconst 2, 1, 0, 0, .int 2, [])) none) (cond (Nat.beq pc 72) (some (.iconst 1, 1, 0, 0, .int 1, [])) none)) (cond (Nat.beq pc 69) (some (.getfield 7, 3, 4, 0, .null, [531])) none))) (cond (Nat.ble 65 pc) (cond (Nat.ble 67 pc) (cond (Nat.ble 68 pc) (cond (Nat.beq pc 68) (some (.aload_n 0, 1, 0, 0, .null, [])) none) (cond (Nat.beq pc 67) (some (.iastore, 1, 0, 0, .null, [])) none)) (cond (Nat.ble 66 pc) (cond (Nat.beq pc 66) (some (.iconst 3, 1, 0, 0, .int 3, [])) none) (cond (Nat.beq pc 65) (some (.iconst 0, 1, 0, 0, .int 0, [])) none))) (cond (Nat.ble 61 pc) (cond (Nat.ble 62 pc) (cond (Nat.beq pc 62) (some (.getfield 7, 3, 4, 0, .null, [531])) none) (cond (Nat.beq pc 61) (some (.aload_n 0, 1, 0, 0, .null, [])) none)) (cond (Nat.beq pc 58) (some (.putfield 29, 3, 4, 10, .null, [541])) none))))) (cond (Nat.ble 30 pc) (cond (Nat.ble 42 pc) (cond (Nat.ble 50 pc) (cond (Nat.ble 54 pc) (cond (Nat.ble 56 pc) (cond (Nat.beq pc 56) (some (.newarray .int, 2, 0, 0, .null, [104])) none) (cond (Nat.beq pc 54) (some (.bipush 123, 2, 0, 0, .int 123, [])) none)) (cond (Nat.ble 53 pc) (cond (Nat.beq pc 53) (some (.aload_n 0, 1, 0, 0, .null, [])) none) (cond (Nat.beq pc 50) (some (.putfield 26, 3, 4, 7, .null, [538])) none))) (cond (Nat.ble 46 pc) (cond (Nat.ble 48 pc) (cond (Nat.beq pc 48) (some (.newarray .int, 2, 0, 0, .null, [104])) none) (cond (Nat.beq pc 46) (some (.bipush 11, 2, 0, 0, .int 11, [])) none)) (cond (Nat.ble 45 pc) (cond (Nat.beq pc 45) (some (.aload_n 0, 1, 0, 0, .null, [])) none) (cond (Nat.beq pc 42) (some (.putfield 23, 3, 4, 5, .null, [536])) none)))) (cond (Nat.ble 34 pc) (cond (Nat.ble 38 pc) (cond (Nat.ble 40 pc) (cond (Nat.beq pc 40) (some (.newarray .int, 2, 0, 0, .null, [104])) none) (cond (Nat.beq pc 38) (some (.bipush 80, 2, 0, 0, .int 80, [])) none)) (cond (Nat.ble 37 pc) (cond (Nat.beq pc 37) (some (.aload_n 0, 1, 0, 0, .null, [])) none) (cond (Nat.beq pc 34) (some (.putfield 19, 3, 4, 4, .null, [535])) none))) (cond (Nat.ble 31 pc) (cond (Nat.ble 32 pc) (cond (Nat.beq pc 32) (some (.newarray .boolean, 2, 1, 0, .null, [149])) none) (cond (Nat.beq pc 31) (some (.iconst 2, 1, 0, 0, .int 2, [])) none)) (cond (Nat.beq pc 30) (some (.aload_n 0, 1, 0, 0, .null, [])) none)))) (cond (Nat.ble 13 pc) (cond (Nat.ble 21 pc) (cond (Nat.ble 25 pc) (cond (Nat.ble 27 pc) (cond (Nat.beq pc 27) (some (.putfield 16, 3, 4, 3, .null, [534])) none) (cond (Nat.beq pc 25) (some (.newarray .int, 2, 0, 0, .null, [104])) none)) (cond (Nat.ble 22 pc) (cond (Nat.beq pc 22) (some (.sipush 160, 3, 0, 0, .int 160, [])) none) (cond (Nat.beq pc 21) (some (.aload_n 0, 1, 0, 0, .null, [])) none))) (cond (Nat.ble 16 pc) (cond (Nat.ble 18 pc) (cond (Nat.beq pc 18) (some (.putfield 13, 3, 4, 1, .null, [532])) none) (cond (Nat.beq pc 16) (some (.newarray .int, 2, 0, 0, .null, [104])) none)) (cond (Nat.beq pc 13) (some (.sipush 480, 3, 0, 0, .int 480, [])) none))) (cond (Nat.ble 5 pc) (cond (Nat.ble 9 pc) (cond (Nat.ble 12 pc) (cond (Nat.beq pc 12) (some (.aload_n 0, 1, 0, 0, .null, [])) none) (cond (Nat.beq pc 9) (some (.putfield 7, 3, 4, 0, .null, [531])) none)) (cond (Nat.ble 7 pc) (cond (Nat.beq pc 7) (some (.newarray .int, 2, 0, 0, .null, [104])) none) (cond (Nat.beq pc 5) (some (.bipush 80, 2, 0, 0, .int 80, [])) none))) (cond (Nat.ble 1 pc) (cond (Nat.ble 4 pc) (cond (Nat.beq pc 4) (some (.aload_n 0, 1, 0, 0, .null, [])) none) (cond (Nat.beq pc 1) (some (.invokespecial 1, 3, 1000, 0, .null, [526, 63, 64])) none)) (cond (Nat.beq pc 0) (some (.aload_n 0, 1, 0, 0, .null, [])) none)))))
/-- BraidHornsModel.in(III)Z -/
def xI_88 : Nat → Option xEn := fun pc => cond (Nat.ble 7 pc) (cond (Nat.ble 11 pc) (cond (Nat.ble 14 pc) (cond (Nat.ble 15 pc) (cond (Nat.beq pc 15) (some (.ireturn, 1, 0, 0, .null, [])) none) (cond (Nat.beq pc 14) (some (.iconst 0, 1, 0, 0, .int 0, [])) none)) (cond (Nat.beq pc 11) (some (.goto 4, 3, 15, 0, .null, [])) none)) (cond (Nat.ble 10 pc) (cond (Nat.beq pc 10) (some (.iconst 1, 1, 0, 0, .int 1, [])) none) (cond (Nat.beq pc 7) (some (.if_icmp .gt 7, 3, 14, 0, .null, [])) none))) (cond (Nat.ble 2 pc) (cond (Nat.ble 5 pc) (cond (Nat.ble 6 pc) (cond (Nat.beq pc 6) (some (.iload_n 2, 1, 0, 0, .null, [])) none) (cond (Nat.beq pc 5) (some (.iload_n 0, 1, 0, 0, .null, [])) none)) (cond (Nat.beq pc 2) (some (.if_icmp .lt 12, 3, 14, 0, .null, [])) none)) (cond (Nat.ble 1 pc) (cond (Nat.beq pc 1) (some (.iload_n 1, 1, 0, 0, .null, [])) none) (cond (Nat.beq pc 0) (some (.iload_n 0, 1, 0, 0, .null, [])) none)))
/-- BraidHornsModel.of1(II)I -/
def xI_89 : Nat → Option xEn := fun pc => cond (Nat.ble 9 pc) (cond (Nat.ble 12 pc) (cond (Nat.ble 13 pc) (cond (Nat.ble 14 pc) (cond (Nat.beq pc 14) (some (.ireturn, 1, 0, 0, .null, [])) none) (cond (Nat.beq pc 13) (some (.iaload, 1, 0, 0, .null, [])) none)) (cond (Nat.beq pc 12) (some (.iadd, 1, 0, 0, .null, [])) none)) (cond (Nat.ble 10 pc) (cond (Nat.ble 11 pc) (cond (Nat.beq pc 11) (some (.iload_n 2, 1, 0, 0, .null, [])) none) (cond (Nat.beq pc 10) (some (.iadd, 1, 0, 0, .null, [])) none)) (cond (Nat.beq pc 9) (some (.imul, 1, 0, 0, .null, [])) none))) (cond (Nat.ble 4 pc) (cond (Nat.ble 6 pc) (cond (Nat.ble 8 pc) (cond (Nat.beq pc 8) (some (.iload_n 1, 1, 0, 0, .null, [])) none) (cond (Nat.beq pc 6) (some (.bipush 7, 2, 0, 0, .int 7, [])) none)) (cond (Nat.beq pc 4) (some (.bipush 10, 2, 0, 0, .int 10, [])) none)) (cond (Nat.ble 1 pc) (cond (Nat.beq pc 1) (some (.getfield 7, 3, 4, 0, .null, [531])) none) (cond (Nat.beq pc 0) (some (.aload_n 0, 1, 0, 0, .null, [])) none)))
/-- BraidHornsModel.isCarrier(I)Z -/
def xI_90 : Nat → Option xEn := fun pc => cond (Nat.ble 12 pc) (cond (Nat.ble 21 pc) (cond (Nat.ble 25 pc) (cond (Nat.ble 26 pc) (cond (Nat.beq pc 26) (some (.ireturn, 1, 0, 0, .null, [])) none) (cond (Nat.beq pc 25) (some (.iconst 0, 1, 0, 0, .int 0, [])) none)) (cond (Nat.ble 22 pc) (cond (Nat.beq pc 22) (some (.goto 4, 3, 26, 0, .null, [])) none) (cond (Nat.beq pc 21) (some (.iconst 1, 1, 0, 0, .int 1, [])) none))) (cond (Nat.ble 16 pc) (cond (Nat.ble 18 pc) (cond (Nat.beq pc 18) (some (.if_icmp .eq 7, 3, 25, 0, .null, [])) none) (cond (Nat.beq pc 16) (some (.bipush (-6), 2, 0, 0, .int (-6), [])) none)) (cond (Nat.ble 13 pc) (cond (Nat.beq pc 13) (some (.invokevirtual 40, 3, 89, 2, .null, [590, 592, 11, 52])) none) (cond (Nat.beq pc 12) (some (.iconst 0, 1, 0, 0, .int 0, [])) none)))) (cond (Nat.ble 4 pc) (cond (Nat.ble 10 pc) (cond (Nat.ble 11 pc) (cond (Nat.beq pc 11) (some (.iload_n 1, 1, 0, 0, .null, [])) none) (cond (Nat.beq pc 10) (some (.aload_n 0, 1, 0, 0, .null, [])) none)) (cond (Nat.ble 7 pc) (cond (Nat.beq pc 7) (some (.ifCond .eq 18, 3, 25, 0, .null, [])) none) (cond (Nat.beq pc 4) (some (.invokestatic 36, 3, 88, 3, .null, [579, 580, 52])) none))) (cond (Nat.ble 1 pc) (cond (Nat.ble 2 pc) (cond (Nat.beq pc 2) (some (.bipush 9, 2, 0, 0, .int 9, [])) none) (cond (Nat.beq pc 1) (some (.iconst 0, 1, 0, 0, .int 0, [])) none)) (cond (Nat.beq pc 0) (some (.iload_n 1, 1, 0, 0, .null, [])) none)))
/-- BraidHornsModel.horns()I -/
def xI_91 : Nat → Option xEn := fun pc => cond (Nat.ble 5 pc) (cond (Nat.ble 7 pc) (cond (Nat.ble 8 pc) (cond (Nat.beq pc 8) (some (.ireturn, 1, 0, 0, .null, [])) none) (cond (Nat.beq pc 7) (some (.imul, 1, 0, 0, .null, [])) none)) (cond (Nat.ble 6 pc) (cond (Nat.beq pc 6) (some (.iaload, 1, 0, 0, .null, [])) none) (cond (Nat.beq pc 5) (some (.iconst 0, 1, 0, 0, .int 0, [])) none))) (cond (Nat.ble 1 pc) (cond (Nat.ble 2 pc) (cond (Nat.beq pc 2) (some (.getfield 7, 3, 4, 0, .null, [531])) none) (cond (Nat.beq pc 1) (some (.aload_n 0, 1, 0, 0, .null, [])) none)) (cond (Nat.beq pc 0) (some (.iconst 2, 1, 0, 0, .int 2, [])) none))
/-- BraidHornsModel.many()I -/
def xI_92 : Nat → Option xEn := fun pc => cond (Nat.ble 13 pc) (cond (Nat.ble 24 pc) (cond (Nat.ble 29 pc) (cond (Nat.ble 32 pc) (cond (Nat.ble 33 pc) (cond (Nat.beq pc 33) (some (.ireturn, 1, 0, 0, .null, [])) none) (cond (Nat.beq pc 32) (some (.iload_n 1, 1, 0, 0, .null, [])) none)) (cond (Nat.beq pc 29) (some (.goto (-25), 3, 4, 0, .null, [])) none)) (cond (Nat.ble 25 pc) (cond (Nat.ble 26 pc) (cond (Nat.beq pc 26) (some (.iinc 2 1, 3, 0, 0, .int (1), [])) none) (cond (Nat.beq pc 25) (some (.istore_n 1, 1, 0, 0, .null, [])) none)) (cond (Nat.beq pc 24) (some (.iadd, 1, 0, 0, .null, [])) none))) (cond (Nat.ble 19 pc) (cond (Nat.ble 20 pc) (cond (Nat.ble 23 pc) (cond (Nat.beq pc 23) (some (.iconst 0, 1, 0, 0, .int 0, [])) none) (cond (Nat.beq pc 20) (some (.goto 4, 3, 24, 0, .null, [])) none)) (cond (Nat.beq pc 19) (some (.iconst 1, 1, 0, 0, .int 1, [])) none)) (cond (Nat.ble 16 pc) (cond (Nat.beq pc 16) (some (.ifCond .eq 7, 3, 23, 0, .null, [])) none) (cond (Nat.beq pc 13) (some (.invokevirtual 44, 3, 90, 1, .null, [586, 588, 10, 52])) none)))) (cond (Nat.ble 5 pc) (cond (Nat.ble 10 pc) (cond (Nat.ble 11 pc) (cond (Nat.ble 12 pc) (cond (Nat.beq pc 12) (some (.iload_n 2, 1, 0, 0, .null, [])) none) (cond (Nat.beq pc 11) (some (.aload_n 0, 1, 0, 0, .null, [])) none)) (cond (Nat.beq pc 10) (some (.iload_n 1, 1, 0, 0, .null, [])) none)) (cond (Nat.ble 7 pc) (cond (Nat.beq pc 7) (some (.if_icmp .ge 25, 3, 32, 0, .null, [])) none) (cond (Nat.beq pc 5) (some (.bipush 10, 2, 0, 0, .int 10, [])) none))) (cond (Nat.ble 2 pc) (cond (Nat.ble 3 pc) (cond (Nat.ble 4 pc) (cond (Nat.beq pc 4) (some (.iload_n 2, 1, 0, 0, .null, [])) none) (cond (Nat.beq pc 3) (some (.istore_n 2, 1, 0, 0, .null, [])) none)) (cond (Nat.beq pc 2) (some (.iconst 0, 1, 0, 0, .int 0, [])) none)) (cond (Nat.ble 1 pc) (cond (Nat.beq pc 1) (some (.istore_n 1, 1, 0, 0, .null, [])) none) (cond (Nat.beq pc 0) (some (.iconst 0, 1, 0, 0, .int 0, [])) none))))
/-- BraidHornsModel.sum(I)I -/
def xI_93 : Nat → Option xEn := fun pc => cond (Nat.ble 19 pc) (cond (Nat.ble 29 pc) (cond (Nat.ble 34 pc) (cond (Nat.ble 37 pc) (cond (Nat.ble 38 pc) (cond (Nat.beq pc 38) (some (.ireturn, 1, 0, 0, .null, [])) none) (cond (Nat.beq pc 37) (some (.iload_n 2, 1, 0, 0, .null, [])) none)) (cond (Nat.beq pc 34) (some (.goto (-30), 3, 4, 0, .null, [])) none)) (cond (Nat.ble 30 pc) (cond (Nat.ble 31 pc) (cond (Nat.beq pc 31) (some (.iinc 3 1, 3, 0, 0, .int (1), [])) none) (cond (Nat.beq pc 30) (some (.istore_n 2, 1, 0, 0, .null, [])) none)) (cond (Nat.beq pc 29) (some (.iadd, 1, 0, 0, .null, [])) none))) (cond (Nat.ble 22 pc) (cond (Nat.ble 25 pc) (cond (Nat.ble 28 pc) (cond (Nat.beq pc 28) (some (.iconst 0, 1, 0, 0, .int 0, [])) none) (cond (Nat.beq pc 25) (some (.goto 4, 3, 29, 0, .null, [])) none)) (cond (Nat.beq pc 22) (some (.invokevirtual 40, 3, 89, 2, .null, [590, 592, 11, 52])) none)) (cond (Nat.ble 20 pc) (cond (Nat.ble 21 pc) (cond (Nat.beq pc 21) (some (.iload_n 1, 1, 0, 0, .null, [])) none) (cond (Nat.beq pc 20) (some (.iload_n 3, 1, 0, 0, .null, [])) none)) (cond (Nat.beq pc 19) (some (.aload_n 0, 1, 0, 0, .null, [])) none)))) (cond (Nat.ble 7 pc) (cond (Nat.ble 12 pc) (cond (Nat.ble 13 pc) (cond (Nat.ble 16 pc) (cond (Nat.beq pc 16) (some (.ifCond .eq 12, 3, 28, 0, .null, [])) none) (cond (Nat.beq pc 13) (some (.invokevirtual 44, 3, 90, 1, .null, [586, 588, 10, 52])) none)) (cond (Nat.beq pc 12) (some (.iload_n 3, 1, 0, 0, .null, [])) none)) (cond (Nat.ble 10 pc) (cond (Nat.ble 11 pc) (cond (Nat.beq pc 11) (some (.aload_n 0, 1, 0, 0, .null, [])) none) (cond (Nat.beq pc 10) (some (.iload_n 2, 1, 0, 0, .null, [])) none)) (cond (Nat.beq pc 7) (some (.if_icmp .ge 30, 3, 37, 0, .null, [])) none))) (cond (Nat.ble 3 pc) (cond (Nat.ble 4 pc) (cond (Nat.ble 5 pc) (cond (Nat.beq pc 5) (some (.bipush 10, 2, 0, 0, .int 10, [])) none) (cond (Nat.beq pc 4) (some (.iload_n 3, 1, 0, 0, .null, [])) none)) (cond (Nat.beq pc 3) (some (.istore_n 3, 1, 0, 0, .null, [])) none)) (cond (Nat.ble 1 pc) (cond (Nat.ble 2 pc) (cond (Nat.beq pc 2) (some (.iconst 0, 1, 0, 0, .int 0, [])) none) (cond (Nat.beq pc 1) (some (.istore_n 2, 1, 0, 0, .null, [])) none)) (cond (Nat.beq pc 0) (some (.iconst 0, 1, 0, 0, .int 0, [])) none))))
/-- BraidHornsModel.carrierIn(I)I -/
def xI_94 : Nat → Option xEn := fun pc => cond (Nat.ble 20 pc) (cond (Nat.ble 30 pc) (cond (Nat.ble 35 pc) (cond (Nat.ble 41 pc) (cond (Nat.ble 42 pc) (cond (Nat.beq pc 42) (some (.ireturn, 1, 0, 0, .null, [])) none) (cond (Nat.beq pc 41) (some (.iload_n 2, 1, 0, 0, .null, [])) none)) (cond (Nat.ble 38 pc) (cond (Nat.beq pc 38) (some (.goto (-33), 3, 5, 0, .null, [])) none) (cond (Nat.beq pc 35) (some (.iinc 3 1, 3, 0, 0, .int (1), [])) none))) (cond (Nat.ble 33 pc) (cond (Nat.ble 34 pc) (cond (Nat.beq pc 34) (some (.istore_n 2, 1, 0, 0, .null, [])) none) (cond (Nat.beq pc 33) (some (.iload_n 2, 1, 0, 0, .null, [])) none)) (cond (Nat.beq pc 30) (some (.goto 4, 3, 34, 0, .null, [])) none))) (cond (Nat.ble 25 pc) (cond (Nat.ble 26 pc) (cond (Nat.ble 29 pc) (cond (Nat.beq pc 29) (some (.iload_n 3, 1, 0, 0, .null, [])) none) (cond (Nat.beq pc 26) (some (.if_icmp .ne 7, 3, 33, 0, .null, [])) none)) (cond (Nat.beq pc 25) (some (.iload_n 1, 1, 0, 0, .null, [])) none)) (cond (Nat.ble 21 pc) (cond (Nat.ble 22 pc) (cond (Nat.beq pc 22) (some (.invokevirtual 40, 3, 89, 2, .null, [590, 592, 11, 52])) none) (cond (Nat.beq pc 21) (some (.iconst 0, 1, 0, 0, .int 0, [])) none)) (cond (Nat.beq pc 20) (some (.iload_n 3, 1, 0, 0, .null, [])) none)))) (cond (Nat.ble 8 pc) (cond (Nat.ble 13 pc) (cond (Nat.ble 16 pc) (cond (Nat.ble 19 pc) (cond (Nat.beq pc 19) (some (.aload_n 0, 1, 0, 0, .null, [])) none) (cond (Nat.beq pc 16) (some (.ifCond .eq 17, 3, 33, 0, .null, [])) none)) (cond (Nat.beq pc 13) (some (.invokevirtual 44, 3, 90, 1, .null, [586, 588, 10, 52])) none)) (cond (Nat.ble 11 pc) (cond (Nat.ble 12 pc) (cond (Nat.beq pc 12) (some (.iload_n 3, 1, 0, 0, .null, [])) none) (cond (Nat.beq pc 11) (some (.aload_n 0, 1, 0, 0, .null, [])) none)) (cond (Nat.beq pc 8) (some (.if_icmp .ge 33, 3, 41, 0, .null, [])) none))) (cond (Nat.ble 4 pc) (cond (Nat.ble 5 pc) (cond (Nat.ble 6 pc) (cond (Nat.beq pc 6) (some (.bipush 10, 2, 0, 0, .int 10, [])) none) (cond (Nat.beq pc 5) (some (.iload_n 3, 1, 0, 0, .null, [])) none)) (cond (Nat.beq pc 4) (some (.istore_n 3, 1, 0, 0, .null, [])) none)) (cond (Nat.ble 2 pc) (cond (Nat.ble 3 pc) (cond (Nat.beq pc 3) (some (.iconst 0, 1, 0, 0, .int 0, [])) none) (cond (Nat.beq pc 2) (some (.istore_n 2, 1, 0, 0, .null, [])) none)) (cond (Nat.beq pc 0) (some (.bipush (-6), 2, 0, 0, .int (-6), [])) none))))
/-- BraidHornsModel.copyState([II[II)V -/
def xI_95 : Nat → Option xEn := fun pc => cond (Nat.ble 15 pc) (cond (Nat.ble 20 pc) (cond (Nat.ble 22 pc) (cond (Nat.ble 25 pc) (cond (Nat.ble 28 pc) (cond (Nat.beq pc 28) (some (.return_, 1, 0, 0, .null, [])) none) (cond (Nat.beq pc 25) (some (.goto (-22), 3, 3, 0, .null, [])) none)) (cond (Nat.beq pc 22) (some (.iinc 4 1, 3, 0, 0, .int (1), [])) none)) (cond (Nat.ble 21 pc) (cond (Nat.beq pc 21) (some (.iastore, 1, 0, 0, .null, [])) none) (cond (Nat.beq pc 20) (some (.iaload, 1, 0, 0, .null, [])) none))) (cond (Nat.ble 17 pc) (cond (Nat.ble 19 pc) (cond (Nat.beq pc 19) (some (.iadd, 1, 0, 0, .null, [])) none) (cond (Nat.beq pc 17) (some (.iload 4, 2, 0, 0, .null, [])) none)) (cond (Nat.ble 16 pc) (cond (Nat.beq pc 16) (some (.iload_n 1, 1, 0, 0, .null, [])) none) (cond (Nat.beq pc 15) (some (.aload_n 0, 1, 0, 0, .null, [])) none)))) (cond (Nat.ble 7 pc) (cond (Nat.ble 11 pc) (cond (Nat.ble 12 pc) (cond (Nat.ble 14 pc) (cond (Nat.beq pc 14) (some (.iadd, 1, 0, 0, .null, [])) none) (cond (Nat.beq pc 12) (some (.iload 4, 2, 0, 0, .null, [])) none)) (cond (Nat.beq pc 11) (some (.iload_n 3, 1, 0, 0, .null, [])) none)) (cond (Nat.ble 10 pc) (cond (Nat.beq pc 10) (some (.aload_n 2, 1, 0, 0, .null, [])) none) (cond (Nat.beq pc 7) (some (.if_icmp .ge 21, 3, 28, 0, .null, [])) none))) (cond (Nat.ble 3 pc) (cond (Nat.ble 5 pc) (cond (Nat.beq pc 5) (some (.bipush 80, 2, 0, 0, .int 80, [])) none) (cond (Nat.beq pc 3) (some (.iload 4, 2, 0, 0, .null, [])) none)) (cond (Nat.ble 1 pc) (cond (Nat.beq pc 1) (some (.istore 4, 2, 0, 0, .null, [])) none) (cond (Nat.beq pc 0) (some (.iconst 0, 1, 0, 0, .int 0, [])) none))))
/-- BraidHornsModel.record()V -/
def xI_96 : Nat → Option xEn := fun pc => cond (Nat.ble 40 pc) (cond (Nat.ble 60 pc) (cond (Nat.ble 69 pc) (cond (Nat.ble 74 pc) (cond (Nat.ble 75 pc) (cond (Nat.ble 78 pc) (cond (Nat.beq pc 78) (some (.return_, 1, 0, 0, .null, [])) none) (cond (Nat.beq pc 75) (some (.putfield 48, 3, 4, 2, .null, [533])) none)) (cond (Nat.beq pc 74) (some (.iadd, 1, 0, 0, .null, [])) none)) (cond (Nat.ble 70 pc) (cond (Nat.ble 73 pc) (cond (Nat.beq pc 73) (some (.iconst 1, 1, 0, 0, .int 1, [])) none) (cond (Nat.beq pc 70) (some (.getfield 48, 3, 4, 2, .null, [533])) none)) (cond (Nat.beq pc 69) (some (.dup, 1, 0, 0, .null, [])) none))) (cond (Nat.ble 64 pc) (cond (Nat.ble 65 pc) (cond (Nat.ble 68 pc) (cond (Nat.beq pc 68) (some (.aload_n 0, 1, 0, 0, .null, [])) none) (cond (Nat.beq pc 65) (some (.invokestatic 52, 3, 95, 4, .null, [572, 573, 52])) none)) (cond (Nat.beq pc 64) (some (.imul, 1, 0, 0, .null, [])) none)) (cond (Nat.ble 61 pc) (cond (Nat.beq pc 61) (some (.getfield 48, 3, 4, 2, .null, [533])) none) (cond (Nat.beq pc 60) (some (.aload_n 0, 1, 0, 0, .null, [])) none)))) (cond (Nat.ble 49 pc) (cond (Nat.ble 54 pc) (cond (Nat.ble 55 pc) (cond (Nat.ble 58 pc) (cond (Nat.beq pc 58) (some (.bipush 80, 2, 0, 0, .int 80, [])) none) (cond (Nat.beq pc 55) (some (.getfield 13, 3, 4, 1, .null, [532])) none)) (cond (Nat.beq pc 54) (some (.aload_n 0, 1, 0, 0, .null, [])) none)) (cond (Nat.ble 50 pc) (cond (Nat.ble 53 pc) (cond (Nat.beq pc 53) (some (.iconst 0, 1, 0, 0, .int 0, [])) none) (cond (Nat.beq pc 50) (some (.getfield 7, 3, 4, 0, .null, [531])) none)) (cond (Nat.beq pc 49) (some (.aload_n 0, 1, 0, 0, .null, [])) none))) (cond (Nat.ble 44 pc) (cond (Nat.ble 45 pc) (cond (Nat.ble 46 pc) (cond (Nat.beq pc 46) (some (.putfield 48, 3, 4, 2, .null, [533])) none) (cond (Nat.beq pc 45) (some (.isub, 1, 0, 0, .null, [])) none)) (cond (Nat.beq pc 44) (some (.iconst 1, 1, 0, 0, .int 1, [])) none)) (cond (Nat.ble 41 pc) (cond (Nat.beq pc 41) (some (.getfield 48, 3, 4, 2, .null, [533])) none) (cond (Nat.beq pc 40) (some (.dup, 1, 0, 0, .null, [])) none))))) (cond (Nat.ble 22 pc) (cond (Nat.ble 30 pc) (cond (Nat.ble 33 pc) (cond (Nat.ble 36 pc) (cond (Nat.ble 39 pc) (cond (Nat.beq pc 39) (some (.aload_n 0, 1, 0, 0, .null, [])) none) (cond (Nat.beq pc 36) (some (.goto (-25), 3, 11, 0, .null, [])) none)) (cond (Nat.beq pc 33) (some (.iinc 1 1, 3, 0, 0, .int (1), [])) none)) (cond (Nat.ble 31 pc) (cond (Nat.ble 32 pc) (cond (Nat.beq pc 32) (some (.iastore, 1, 0, 0, .null, [])) none) (cond (Nat.beq pc 31) (some (.iaload, 1, 0, 0, .null, [])) none)) (cond (Nat.beq pc 30) (some (.iadd, 1, 0, 0, .null, [])) none))) (cond (Nat.ble 24 pc) (cond (Nat.ble 27 pc) (cond (Nat.ble 28 pc) (cond (Nat.beq pc 28) (some (.bipush 80, 2, 0, 0, .int 80, [])) none) (cond (Nat.beq pc 27) (some (.iload_n 1, 1, 0, 0, .null, [])) none)) (cond (Nat.beq pc 24) (some (.getfield 13, 3, 4, 1, .null, [532])) none)) (cond (Nat.ble 23 pc) (cond (Nat.beq pc 23) (some (.aload_n 0, 1, 0, 0, .null, [])) none) (cond (Nat.beq pc 22) (some (.iload_n 1, 1, 0, 0, .null, [])) none)))) (cond (Nat.ble 10 pc) (cond (Nat.ble 15 pc) (cond (Nat.ble 18 pc) (cond (Nat.ble 19 pc) (cond (Nat.beq pc 19) (some (.getfield 13, 3, 4, 1, .null, [532])) none) (cond (Nat.beq pc 18) (some (.aload_n 0, 1, 0, 0, .null, [])) none)) (cond (Nat.beq pc 15) (some (.if_icmp .ge 24, 3, 39, 0, .null, [])) none)) (cond (Nat.ble 11 pc) (cond (Nat.ble 12 pc) (cond (Nat.beq pc 12) (some (.sipush 400, 3, 0, 0, .int 400, [])) none) (cond (Nat.beq pc 11) (some (.iload_n 1, 1, 0, 0, .null, [])) none)) (cond (Nat.beq pc 10) (some (.istore_n 1, 1, 0, 0, .null, [])) none))) (cond (Nat.ble 4 pc) (cond (Nat.ble 6 pc) (cond (Nat.ble 9 pc) (cond (Nat.beq pc 9) (some (.iconst 0, 1, 0, 0, .int 0, [])) none) (cond (Nat.beq pc 6) (some (.if_icmp .ne 43, 3, 49, 0, .null, [])) none)) (cond (Nat.beq pc 4) (some (.bipush 6, 2, 0, 0, .int 6, [])) none)) (cond (Nat.ble 1 pc) (cond (Nat.beq pc 1) (some (.getfield 48, 3, 4, 2, .null, [533])) none) (cond (Nat.beq pc 0) (some (.aload_n 0, 1, 0, 0, .null, [])) none)))))
/-- BraidHornsModel.undo()I -/
def xI_97 : Nat → Option xEn := fun pc => cond (Nat.ble 21 pc) (cond (Nat.ble 32 pc) (cond (Nat.ble 39 pc) (cond (Nat.ble 40 pc) (cond (Nat.ble 43 pc) (cond (Nat.beq pc 43) (some (.ireturn, 1, 0, 0, .null, [])) none) (cond (Nat.beq pc 40) (some (.getfield 48, 3, 4, 2, .null, [533])) none)) (cond (Nat.beq pc 39) (some (.aload_n 0, 1, 0, 0, .null, [])) none)) (cond (Nat.ble 35 pc) (cond (Nat.ble 36 pc) (cond (Nat.beq pc 36) (some (.invokestatic 52, 3, 95, 4, .null, [572, 573, 52])) none) (cond (Nat.beq pc 35) (some (.iconst 0, 1, 0, 0, .int 0, [])) none)) (cond (Nat.beq pc 32) (some (.getfield 7, 3, 4, 0, .null, [531])) none))) (cond (Nat.ble 27 pc) (cond (Nat.ble 30 pc) (cond (Nat.ble 31 pc) (cond (Nat.beq pc 31) (some (.aload_n 0, 1, 0, 0, .null, [])) none) (cond (Nat.beq pc 30) (some (.imul, 1, 0, 0, .null, [])) none)) (cond (Nat.beq pc 27) (some (.getfield 48, 3, 4, 2, .null, [533])) none)) (cond (Nat.ble 24 pc) (cond (Nat.ble 26 pc) (cond (Nat.beq pc 26) (some (.aload_n 0, 1, 0, 0, .null, [])) none) (cond (Nat.beq pc 24) (some (.bipush 80, 2, 0, 0, .int 80, [])) none)) (cond (Nat.beq pc 21) (some (.getfield 13, 3, 4, 1, .null, [532])) none)))) (cond (Nat.ble 11 pc) (cond (Nat.ble 16 pc) (cond (Nat.ble 17 pc) (cond (Nat.ble 20 pc) (cond (Nat.beq pc 20) (some (.aload_n 0, 1, 0, 0, .null, [])) none) (cond (Nat.beq pc 17) (some (.putfield 48, 3, 4, 2, .null, [533])) none)) (cond (Nat.beq pc 16) (some (.isub, 1, 0, 0, .null, [])) none)) (cond (Nat.ble 12 pc) (cond (Nat.ble 15 pc) (cond (Nat.beq pc 15) (some (.iconst 1, 1, 0, 0, .int 1, [])) none) (cond (Nat.beq pc 12) (some (.getfield 48, 3, 4, 2, .null, [533])) none)) (cond (Nat.beq pc 11) (some (.dup, 1, 0, 0, .null, [])) none))) (cond (Nat.ble 7 pc) (cond (Nat.ble 9 pc) (cond (Nat.ble 10 pc) (cond (Nat.beq pc 10) (some (.aload_n 0, 1, 0, 0, .null, [])) none) (cond (Nat.beq pc 9) (some (.ireturn, 1, 0, 0, .null, [])) none)) (cond (Nat.beq pc 7) (some (.bipush (-5), 2, 0, 0, .int (-5), [])) none)) (cond (Nat.ble 1 pc) (cond (Nat.ble 4 pc) (cond (Nat.beq pc 4) (some (.ifCond .ne 6, 3, 10, 0, .null, [])) none) (cond (Nat.beq pc 1) (some (.getfield 48, 3, 4, 2, .null, [533])) none)) (cond (Nat.beq pc 0) (some (.aload_n 0, 1, 0, 0, .null, [])) none))))
/-- BraidHornsModel.save(I)I -/
def xI_98 : Nat → Option xEn := fun pc => cond (Nat.ble 21 pc) (cond (Nat.ble 32 pc) (cond (Nat.ble 35 pc) (cond (Nat.ble 36 pc) (cond (Nat.ble 39 pc) (cond (Nat.beq pc 39) (some (.ireturn, 1, 0, 0, .null, [])) none) (cond (Nat.beq pc 36) (some (.invokevirtual 56, 3, 92, 0, .null, [582, 584, 9, 52])) none)) (cond (Nat.beq pc 35) (some (.aload_n 0, 1, 0, 0, .null, [])) none)) (cond (Nat.ble 33 pc) (cond (Nat.ble 34 pc) (cond (Nat.beq pc 34) (some (.bastore, 1, 0, 0, .null, [])) none) (cond (Nat.beq pc 33) (some (.iconst 1, 1, 0, 0, .int 1, [])) none)) (cond (Nat.beq pc 32) (some (.iload_n 1, 1, 0, 0, .null, [])) none))) (cond (Nat.ble 25 pc) (cond (Nat.ble 28 pc) (cond (Nat.ble 29 pc) (cond (Nat.beq pc 29) (some (.getfield 19, 3, 4, 4, .null, [535])) none) (cond (Nat.beq pc 28) (some (.aload_n 0, 1, 0, 0, .null, [])) none)) (cond (Nat.beq pc 25) (some (.invokestatic 52, 3, 95, 4, .null, [572, 573, 52])) none)) (cond (Nat.ble 23 pc) (cond (Nat.ble 24 pc) (cond (Nat.beq pc 24) (some (.imul, 1, 0, 0, .null, [])) none) (cond (Nat.beq pc 23) (some (.iload_n 1, 1, 0, 0, .null, [])) none)) (cond (Nat.beq pc 21) (some (.bipush 80, 2, 0, 0, .int 80, [])) none)))) (cond (Nat.ble 11 pc) (cond (Nat.ble 16 pc) (cond (Nat.ble 17 pc) (cond (Nat.ble 18 pc) (cond (Nat.beq pc 18) (some (.getfield 16, 3, 4, 3, .null, [534])) none) (cond (Nat.beq pc 17) (some (.aload_n 0, 1, 0, 0, .null, [])) none)) (cond (Nat.beq pc 16) (some (.iconst 0, 1, 0, 0, .int 0, [])) none)) (cond (Nat.ble 12 pc) (cond (Nat.ble 13 pc) (cond (Nat.beq pc 13) (some (.getfield 7, 3, 4, 0, .null, [531])) none) (cond (Nat.beq pc 12) (some (.aload_n 0, 1, 0, 0, .null, [])) none)) (cond (Nat.beq pc 11) (some (.ireturn, 1, 0, 0, .null, [])) none))) (cond (Nat.ble 3 pc) (cond (Nat.ble 6 pc) (cond (Nat.ble 9 pc) (cond (Nat.beq pc 9) (some (.bipush (-2), 2, 0, 0, .int (-2), [])) none) (cond (Nat.beq pc 6) (some (.ifCond .ne 6, 3, 12, 0, .null, [])) none)) (cond (Nat.beq pc 3) (some (.invokestatic 36, 3, 88, 3, .null, [579, 580, 52])) none)) (cond (Nat.ble 1 pc) (cond (Nat.ble 2 pc) (cond (Nat.beq pc 2) (some (.iconst 1, 1, 0, 0, .int 1, [])) none) (cond (Nat.beq pc 1) (some (.iconst 0, 1, 0, 0, .int 0, [])) none)) (cond (Nat.beq pc 0) (some (.iload_n 1, 1, 0, 0, .null, [])) none))))
/-- BraidHornsModel.restore(I)I -/
def xI_99 : Nat → Option xEn := fun pc => cond (Nat.ble 24 pc) (cond (Nat.ble 36 pc) (cond (Nat.ble 41 pc) (cond (Nat.ble 45 pc) (cond (Nat.ble 48 pc) (cond (Nat.beq pc 48) (some (.ireturn, 1, 0, 0, .null, [])) none) (cond (Nat.beq pc 45) (some (.invokevirtual 56, 3, 92, 0, .null, [582, 584, 9, 52])) none)) (cond (Nat.ble 44 pc) (cond (Nat.beq pc 44) (some (.aload_n 0, 1, 0, 0, .null, [])) none) (cond (Nat.beq pc 41) (some (.invokestatic 52, 3, 95, 4, .null, [572, 573, 52])) none))) (cond (Nat.ble 37 pc) (cond (Nat.ble 40 pc) (cond (Nat.beq pc 40) (some (.iconst 0, 1, 0, 0, .int 0, [])) none) (cond (Nat.beq pc 37) (some (.getfield 7, 3, 4, 0, .null, [531])) none)) (cond (Nat.beq pc 36) (some (.aload_n 0, 1, 0, 0, .null, [])) none))) (cond (Nat.ble 29 pc) (cond (Nat.ble 34 pc) (cond (Nat.ble 35 pc) (cond (Nat.beq pc 35) (some (.imul, 1, 0, 0, .null, [])) none) (cond (Nat.beq pc 34) (some (.iload_n 1, 1, 0, 0, .null, [])) none)) (cond (Nat.ble 32 pc) (cond (Nat.beq pc 32) (some (.bipush 80, 2, 0, 0, .int 80, [])) none) (cond (Nat.beq pc 29) (some (.getfield 16, 3, 4, 3, .null, [534])) none))) (cond (Nat.ble 25 pc) (cond (Nat.ble 28 pc) (cond (Nat.beq pc 28) (some (.aload_n 0, 1, 0, 0, .null, [])) none) (cond (Nat.beq pc 25) (some (.invokevirtual 60, 3, 96, 0, .null, [598, 600, 12, 52])) none)) (cond (Nat.beq pc 24) (some (.aload_n 0, 1, 0, 0, .null, [])) none)))) (cond (Nat.ble 12 pc) (cond (Nat.ble 17 pc) (cond (Nat.ble 21 pc) (cond (Nat.ble 23 pc) (cond (Nat.beq pc 23) (some (.ireturn, 1, 0, 0, .null, [])) none) (cond (Nat.beq pc 21) (some (.bipush (-5), 2, 0, 0, .int (-5), [])) none)) (cond (Nat.ble 18 pc) (cond (Nat.beq pc 18) (some (.ifCond .ne 6, 3, 24, 0, .null, [])) none) (cond (Nat.beq pc 17) (some (.baload, 1, 0, 0, .null, [])) none))) (cond (Nat.ble 13 pc) (cond (Nat.ble 16 pc) (cond (Nat.beq pc 16) (some (.iload_n 1, 1, 0, 0, .null, [])) none) (cond (Nat.beq pc 13) (some (.getfield 19, 3, 4, 4, .null, [535])) none)) (cond (Nat.beq pc 12) (some (.aload_n 0, 1, 0, 0, .null, [])) none))) (cond (Nat.ble 3 pc) (cond (Nat.ble 9 pc) (cond (Nat.ble 11 pc) (cond (Nat.beq pc 11) (some (.ireturn, 1, 0, 0, .null, [])) none) (cond (Nat.beq pc 9) (some (.bipush (-2), 2, 0, 0, .int (-2), [])) none)) (cond (Nat.ble 6 pc) (cond (Nat.beq pc 6) (some (.ifCond .ne 6, 3, 12, 0, .null, [])) none) (cond (Nat.beq pc 3) (some (.invokestatic 36, 3, 88, 3, .null, [579, 580, 52])) none))) (cond (Nat.ble 1 pc) (cond (Nat.ble 2 pc) (cond (Nat.beq pc 2) (some (.iconst 1, 1, 0, 0, .int 1, [])) none) (cond (Nat.beq pc 1) (some (.iconst 0, 1, 0, 0, .int 0, [])) none)) (cond (Nat.beq pc 0) (some (.iload_n 1, 1, 0, 0, .null, [])) none))))
/-- BraidHornsModel.otherSide(I)I -/
def xI_100 : Nat → Option xEn := fun pc => cond (Nat.ble 23 pc) (cond (Nat.ble 36 pc) (cond (Nat.ble 43 pc) (cond (Nat.ble 45 pc) (cond (Nat.ble 48 pc) (cond (Nat.ble 49 pc) (cond (Nat.beq pc 49) (some (.ireturn, 1, 0, 0, .null, [])) none) (cond (Nat.beq pc 48) (some (.iload_n 1, 1, 0, 0, .null, [])) none)) (cond (Nat.beq pc 45) (some (.goto 4, 3, 49, 0, .null, [])) none)) (cond (Nat.ble 44 pc) (cond (Nat.beq pc 44) (some (.imul, 1, 0, 0, .null, [])) none) (cond (Nat.beq pc 43) (some (.irem, 1, 0, 0, .null, [])) none))) (cond (Nat.ble 38 pc) (cond (Nat.ble 39 pc) (cond (Nat.ble 40 pc) (cond (Nat.beq pc 40) (some (.invokevirtual 63, 3, 91, 0, .null, [621, 623, 15, 52])) none) (cond (Nat.beq pc 39) (some (.aload_n 0, 1, 0, 0, .null, [])) none)) (cond (Nat.beq pc 38) (some (.isub, 1, 0, 0, .null, [])) none)) (cond (Nat.ble 37 pc) (cond (Nat.beq pc 37) (some (.iconst 1, 1, 0, 0, .int 1, [])) none) (cond (Nat.beq pc 36) (some (.iadd, 1, 0, 0, .null, [])) none)))) (cond (Nat.ble 27 pc) (cond (Nat.ble 31 pc) (cond (Nat.ble 32 pc) (cond (Nat.ble 33 pc) (cond (Nat.beq pc 33) (some (.invokevirtual 63, 3, 91, 0, .null, [621, 623, 15, 52])) none) (cond (Nat.beq pc 32) (some (.aload_n 0, 1, 0, 0, .null, [])) none)) (cond (Nat.beq pc 31) (some (.iload_n 2, 1, 0, 0, .null, [])) none)) (cond (Nat.ble 30 pc) (cond (Nat.beq pc 30) (some (.iconst 4, 1, 0, 0, .int 4, [])) none) (cond (Nat.beq pc 27) (some (.if_icmp .ne 21, 3, 48, 0, .null, [])) none))) (cond (Nat.ble 25 pc) (cond (Nat.ble 26 pc) (cond (Nat.beq pc 26) (some (.iconst 2, 1, 0, 0, .int 2, [])) none) (cond (Nat.beq pc 25) (some (.iload_n 3, 1, 0, 0, .null, [])) none)) (cond (Nat.ble 24 pc) (cond (Nat.beq pc 24) (some (.ireturn, 1, 0, 0, .null, [])) none) (cond (Nat.beq pc 23) (some (.iadd, 1, 0, 0, .null, [])) none))))) (cond (Nat.ble 9 pc) (cond (Nat.ble 16 pc) (cond (Nat.ble 20 pc) (cond (Nat.ble 21 pc) (cond (Nat.ble 22 pc) (cond (Nat.beq pc 22) (some (.iconst 2, 1, 0, 0, .int 2, [])) none) (cond (Nat.beq pc 21) (some (.imul, 1, 0, 0, .null, [])) none)) (cond (Nat.beq pc 20) (some (.irem, 1, 0, 0, .null, [])) none)) (cond (Nat.ble 17 pc) (cond (Nat.beq pc 17) (some (.invokevirtual 63, 3, 91, 0, .null, [621, 623, 15, 52])) none) (cond (Nat.beq pc 16) (some (.aload_n 0, 1, 0, 0, .null, [])) none))) (cond (Nat.ble 13 pc) (cond (Nat.ble 14 pc) (cond (Nat.ble 15 pc) (cond (Nat.beq pc 15) (some (.iadd, 1, 0, 0, .null, [])) none) (cond (Nat.beq pc 14) (some (.iconst 1, 1, 0, 0, .int 1, [])) none)) (cond (Nat.beq pc 13) (some (.iload_n 2, 1, 0, 0, .null, [])) none)) (cond (Nat.ble 12 pc) (cond (Nat.beq pc 12) (some (.iconst 4, 1, 0, 0, .int 4, [])) none) (cond (Nat.beq pc 9) (some (.ifCond .ne 16, 3, 25, 0, .null, [])) none)))) (cond (Nat.ble 4 pc) (cond (Nat.ble 6 pc) (cond (Nat.ble 7 pc) (cond (Nat.ble 8 pc) (cond (Nat.beq pc 8) (some (.iload_n 3, 1, 0, 0, .null, [])) none) (cond (Nat.beq pc 7) (some (.istore_n 3, 1, 0, 0, .null, [])) none)) (cond (Nat.beq pc 6) (some (.irem, 1, 0, 0, .null, [])) none)) (cond (Nat.ble 5 pc) (cond (Nat.beq pc 5) (some (.iconst 4, 1, 0, 0, .int 4, [])) none) (cond (Nat.beq pc 4) (some (.iload_n 1, 1, 0, 0, .null, [])) none))) (cond (Nat.ble 2 pc) (cond (Nat.ble 3 pc) (cond (Nat.beq pc 3) (some (.istore_n 2, 1, 0, 0, .null, [])) none) (cond (Nat.beq pc 2) (some (.idiv, 1, 0, 0, .null, [])) none)) (cond (Nat.ble 1 pc) (cond (Nat.beq pc 1) (some (.iconst 4, 1, 0, 0, .int 4, [])) none) (cond (Nat.beq pc 0) (some (.iload_n 1, 1, 0, 0, .null, [])) none)))))
/-- BraidHornsModel.turned(I)I -/
def xI_101 : Nat → Option xEn := fun pc => cond (Nat.ble 10 pc) (cond (Nat.ble 19 pc) (cond (Nat.ble 21 pc) (cond (Nat.ble 22 pc) (cond (Nat.ble 23 pc) (cond (Nat.beq pc 23) (some (.ireturn, 1, 0, 0, .null, [])) none) (cond (Nat.beq pc 22) (some (.iadd, 1, 0, 0, .null, [])) none)) (cond (Nat.beq pc 21) (some (.irem, 1, 0, 0, .null, [])) none)) (cond (Nat.ble 20 pc) (cond (Nat.beq pc 20) (some (.iconst 4, 1, 0, 0, .int 4, [])) none) (cond (Nat.beq pc 19) (some (.iadd, 1, 0, 0, .null, [])) none))) (cond (Nat.ble 14 pc) (cond (Nat.ble 15 pc) (cond (Nat.ble 18 pc) (cond (Nat.beq pc 18) (some (.iconst 3, 1, 0, 0, .int 3, [])) none) (cond (Nat.beq pc 15) (some (.goto 4, 3, 19, 0, .null, [])) none)) (cond (Nat.beq pc 14) (some (.iconst 1, 1, 0, 0, .int 1, [])) none)) (cond (Nat.ble 11 pc) (cond (Nat.beq pc 11) (some (.ifCond .ne 7, 3, 18, 0, .null, [])) none) (cond (Nat.beq pc 10) (some (.irem, 1, 0, 0, .null, [])) none)))) (cond (Nat.ble 5 pc) (cond (Nat.ble 7 pc) (cond (Nat.ble 8 pc) (cond (Nat.ble 9 pc) (cond (Nat.beq pc 9) (some (.iconst 2, 1, 0, 0, .int 2, [])) none) (cond (Nat.beq pc 8) (some (.iload_n 1, 1, 0, 0, .null, [])) none)) (cond (Nat.beq pc 7) (some (.iload_n 0, 1, 0, 0, .null, [])) none)) (cond (Nat.ble 6 pc) (cond (Nat.beq pc 6) (some (.imul, 1, 0, 0, .null, [])) none) (cond (Nat.beq pc 5) (some (.iload_n 1, 1, 0, 0, .null, [])) none))) (cond (Nat.ble 2 pc) (cond (Nat.ble 3 pc) (cond (Nat.ble 4 pc) (cond (Nat.beq pc 4) (some (.iconst 4, 1, 0, 0, .int 4, [])) none) (cond (Nat.beq pc 3) (some (.istore_n 1, 1, 0, 0, .null, [])) none)) (cond (Nat.beq pc 2) (some (.idiv, 1, 0, 0, .null, [])) none)) (cond (Nat.ble 1 pc) (cond (Nat.beq pc 1) (some (.iconst 4, 1, 0, 0, .int 4, [])) none) (cond (Nat.beq pc 0) (some (.iload_n 0, 1, 0, 0, .null, [])) none))))
/-- BraidHornsModel.takePlaces()V -/
def xI_102 : Nat → Option xEn := fun pc => cond (Nat.ble 26 pc) (cond (Nat.ble 37 pc) (cond (Nat.ble 43 pc) (cond (Nat.ble 49 pc) (cond (Nat.ble 52 pc) (cond (Nat.beq pc 52) (some (.return_, 1, 0, 0, .null, [])) none) (cond (Nat.beq pc 49) (some (.goto (-42), 3, 7, 0, .null, [])) none)) (cond (Nat.ble 46 pc) (cond (Nat.beq pc 46) (some (.iinc 1 1, 3, 0, 0, .int (1), [])) none) (cond (Nat.beq pc 43) (some (.putfield 66, 3, 4, 8, .null, [539])) none))) (cond (Nat.ble 41 pc) (cond (Nat.ble 42 pc) (cond (Nat.beq pc 42) (some (.iadd, 1, 0, 0, .null, [])) none) (cond (Nat.beq pc 41) (some (.iconst 1, 1, 0, 0, .int 1, [])) none)) (cond (Nat.ble 38 pc) (cond (Nat.beq pc 38) (some (.getfield 66, 3, 4, 8, .null, [539])) none) (cond (Nat.beq pc 37) (some (.dup, 1, 0, 0, .null, [])) none)))) (cond (Nat.ble 31 pc) (cond (Nat.ble 35 pc) (cond (Nat.ble 36 pc) (cond (Nat.beq pc 36) (some (.aload_n 0, 1, 0, 0, .null, [])) none) (cond (Nat.beq pc 35) (some (.iastore, 1, 0, 0, .null, [])) none)) (cond (Nat.ble 32 pc) (cond (Nat.beq pc 32) (some (.invokevirtual 40, 3, 89, 2, .null, [590, 592, 11, 52])) none) (cond (Nat.beq pc 31) (some (.iconst 0, 1, 0, 0, .int 0, [])) none))) (cond (Nat.ble 29 pc) (cond (Nat.ble 30 pc) (cond (Nat.beq pc 30) (some (.iload_n 1, 1, 0, 0, .null, [])) none) (cond (Nat.beq pc 29) (some (.aload_n 0, 1, 0, 0, .null, [])) none)) (cond (Nat.beq pc 26) (some (.getfield 66, 3, 4, 8, .null, [539])) none)))) (cond (Nat.ble 10 pc) (cond (Nat.ble 18 pc) (cond (Nat.ble 22 pc) (cond (Nat.ble 25 pc) (cond (Nat.beq pc 25) (some (.aload_n 0, 1, 0, 0, .null, [])) none) (cond (Nat.beq pc 22) (some (.getfield 26, 3, 4, 7, .null, [538])) none)) (cond (Nat.ble 21 pc) (cond (Nat.beq pc 21) (some (.aload_n 0, 1, 0, 0, .null, [])) none) (cond (Nat.beq pc 18) (some (.ifCond .eq 28, 3, 46, 0, .null, [])) none))) (cond (Nat.ble 14 pc) (cond (Nat.ble 15 pc) (cond (Nat.beq pc 15) (some (.invokevirtual 44, 3, 90, 1, .null, [586, 588, 10, 52])) none) (cond (Nat.beq pc 14) (some (.iload_n 1, 1, 0, 0, .null, [])) none)) (cond (Nat.ble 13 pc) (cond (Nat.beq pc 13) (some (.aload_n 0, 1, 0, 0, .null, [])) none) (cond (Nat.beq pc 10) (some (.if_icmp .ge 42, 3, 52, 0, .null, [])) none)))) (cond (Nat.ble 5 pc) (cond (Nat.ble 7 pc) (cond (Nat.ble 8 pc) (cond (Nat.beq pc 8) (some (.bipush 10, 2, 0, 0, .int 10, [])) none) (cond (Nat.beq pc 7) (some (.iload_n 1, 1, 0, 0, .null, [])) none)) (cond (Nat.ble 6 pc) (cond (Nat.beq pc 6) (some (.istore_n 1, 1, 0, 0, .null, [])) none) (cond (Nat.beq pc 5) (some (.iconst 0, 1, 0, 0, .int 0, [])) none))) (cond (Nat.ble 1 pc) (cond (Nat.ble 2 pc) (cond (Nat.beq pc 2) (some (.putfield 66, 3, 4, 8, .null, [539])) none) (cond (Nat.beq pc 1) (some (.iconst 0, 1, 0, 0, .int 0, [])) none)) (cond (Nat.beq pc 0) (some (.aload_n 0, 1, 0, 0, .null, [])) none))))
/-- BraidHornsModel.isTaken(I)Z -/
def xI_103 : Nat → Option xEn := fun pc => cond (Nat.ble 20 pc) (cond (Nat.ble 30 pc) (cond (Nat.ble 35 pc) (cond (Nat.ble 38 pc) (cond (Nat.ble 39 pc) (cond (Nat.beq pc 39) (some (.ireturn, 1, 0, 0, .null, [])) none) (cond (Nat.beq pc 38) (some (.iload_n 2, 1, 0, 0, .null, [])) none)) (cond (Nat.beq pc 35) (some (.goto (-31), 3, 4, 0, .null, [])) none)) (cond (Nat.ble 31 pc) (cond (Nat.ble 32 pc) (cond (Nat.beq pc 32) (some (.iinc 3 1, 3, 0, 0, .int (1), [])) none) (cond (Nat.beq pc 31) (some (.istore_n 2, 1, 0, 0, .null, [])) none)) (cond (Nat.beq pc 30) (some (.iconst 0, 1, 0, 0, .int 0, [])) none))) (cond (Nat.ble 23 pc) (cond (Nat.ble 26 pc) (cond (Nat.ble 27 pc) (cond (Nat.beq pc 27) (some (.goto 4, 3, 31, 0, .null, [])) none) (cond (Nat.beq pc 26) (some (.iconst 1, 1, 0, 0, .int 1, [])) none)) (cond (Nat.beq pc 23) (some (.if_icmp .ne 7, 3, 30, 0, .null, [])) none)) (cond (Nat.ble 21 pc) (cond (Nat.ble 22 pc) (cond (Nat.beq pc 22) (some (.iload_n 1, 1, 0, 0, .null, [])) none) (cond (Nat.beq pc 21) (some (.iaload, 1, 0, 0, .null, [])) none)) (cond (Nat.beq pc 20) (some (.iload_n 3, 1, 0, 0, .null, [])) none)))) (cond (Nat.ble 6 pc) (cond (Nat.ble 13 pc) (cond (Nat.ble 16 pc) (cond (Nat.ble 17 pc) (cond (Nat.beq pc 17) (some (.getfield 26, 3, 4, 7, .null, [538])) none) (cond (Nat.beq pc 16) (some (.aload_n 0, 1, 0, 0, .null, [])) none)) (cond (Nat.beq pc 13) (some (.ifCond .ne 13, 3, 26, 0, .null, [])) none)) (cond (Nat.ble 9 pc) (cond (Nat.ble 12 pc) (cond (Nat.beq pc 12) (some (.iload_n 2, 1, 0, 0, .null, [])) none) (cond (Nat.beq pc 9) (some (.if_icmp .ge 29, 3, 38, 0, .null, [])) none)) (cond (Nat.beq pc 6) (some (.getfield 66, 3, 4, 8, .null, [539])) none))) (cond (Nat.ble 3 pc) (cond (Nat.ble 4 pc) (cond (Nat.ble 5 pc) (cond (Nat.beq pc 5) (some (.aload_n 0, 1, 0, 0, .null, [])) none) (cond (Nat.beq pc 4) (some (.iload_n 3, 1, 0, 0, .null, [])) none)) (cond (Nat.beq pc 3) (some (.istore_n 3, 1, 0, 0, .null, [])) none)) (cond (Nat.ble 1 pc) (cond (Nat.ble 2 pc) (cond (Nat.beq pc 2) (some (.iconst 0, 1, 0, 0, .int 0, [])) none) (cond (Nat.beq pc 1) (some (.istore_n 2, 1, 0, 0, .null, [])) none)) (cond (Nat.beq pc 0) (some (.iconst 0, 1, 0, 0, .int 0, [])) none))))
/-- BraidHornsModel.meetAt()I -/
def xI_104 : Nat → Option xEn := fun pc => cond (Nat.ble 45 pc) (cond (Nat.ble 67 pc) (cond (Nat.ble 80 pc) (cond (Nat.ble 85 pc) (cond (Nat.ble 91 pc) (cond (Nat.ble 92 pc) (cond (Nat.beq pc 92) (some (.ireturn, 1, 0, 0, .null, [])) none) (cond (Nat.beq pc 91) (some (.iload_n 1, 1, 0, 0, .null, [])) none)) (cond (Nat.ble 88 pc) (cond (Nat.beq pc 88) (some (.goto (-78), 3, 10, 0, .null, [])) none) (cond (Nat.beq pc 85) (some (.iinc 2 (-1), 3, 0, 0, .int (-1), [])) none))) (cond (Nat.ble 83 pc) (cond (Nat.ble 84 pc) (cond (Nat.beq pc 84) (some (.istore_n 1, 1, 0, 0, .null, [])) none) (cond (Nat.beq pc 83) (some (.iload_n 1, 1, 0, 0, .null, [])) none)) (cond (Nat.beq pc 80) (some (.goto 4, 3, 84, 0, .null, [])) none))) (cond (Nat.ble 74 pc) (cond (Nat.ble 76 pc) (cond (Nat.ble 79 pc) (cond (Nat.beq pc 79) (some (.iload_n 2, 1, 0, 0, .null, [])) none) (cond (Nat.beq pc 76) (some (.if_icmp .ne 7, 3, 83, 0, .null, [])) none)) (cond (Nat.ble 75 pc) (cond (Nat.beq pc 75) (some (.iconst 2, 1, 0, 0, .int 2, [])) none) (cond (Nat.beq pc 74) (some (.iload_n 3, 1, 0, 0, .null, [])) none))) (cond (Nat.ble 68 pc) (cond (Nat.ble 71 pc) (cond (Nat.beq pc 71) (some (.goto (-52), 3, 19, 0, .null, [])) none) (cond (Nat.beq pc 68) (some (.iinc 4 1, 3, 0, 0, .int (1), [])) none)) (cond (Nat.beq pc 67) (some (.istore_n 3, 1, 0, 0, .null, [])) none)))) (cond (Nat.ble 54 pc) (cond (Nat.ble 61 pc) (cond (Nat.ble 65 pc) (cond (Nat.ble 66 pc) (cond (Nat.beq pc 66) (some (.iadd, 1, 0, 0, .null, [])) none) (cond (Nat.beq pc 65) (some (.iconst 0, 1, 0, 0, .int 0, [])) none)) (cond (Nat.ble 62 pc) (cond (Nat.beq pc 62) (some (.goto 4, 3, 66, 0, .null, [])) none) (cond (Nat.beq pc 61) (some (.iconst 1, 1, 0, 0, .int 1, [])) none))) (cond (Nat.ble 55 pc) (cond (Nat.ble 58 pc) (cond (Nat.beq pc 58) (some (.if_icmp .ne 7, 3, 65, 0, .null, [])) none) (cond (Nat.beq pc 55) (some (.invokevirtual 73, 3, 100, 1, .null, [633, 635, 18, 52])) none)) (cond (Nat.beq pc 54) (some (.imul, 1, 0, 0, .null, [])) none))) (cond (Nat.ble 51 pc) (cond (Nat.ble 52 pc) (cond (Nat.ble 53 pc) (cond (Nat.beq pc 53) (some (.iload_n 2, 1, 0, 0, .null, [])) none) (cond (Nat.beq pc 52) (some (.iconst 4, 1, 0, 0, .int 4, [])) none)) (cond (Nat.beq pc 51) (some (.aload_n 0, 1, 0, 0, .null, [])) none)) (cond (Nat.ble 46 pc) (cond (Nat.ble 49 pc) (cond (Nat.beq pc 49) (some (.iload 5, 2, 0, 0, .null, [])) none) (cond (Nat.beq pc 46) (some (.if_icmp .eq 15, 3, 61, 0, .null, [])) none)) (cond (Nat.beq pc 45) (some (.imul, 1, 0, 0, .null, [])) none))))) (cond (Nat.ble 19 pc) (cond (Nat.ble 34 pc) (cond (Nat.ble 40 pc) (cond (Nat.ble 43 pc) (cond (Nat.ble 44 pc) (cond (Nat.beq pc 44) (some (.iload_n 2, 1, 0, 0, .null, [])) none) (cond (Nat.beq pc 43) (some (.iconst 4, 1, 0, 0, .int 4, [])) none)) (cond (Nat.ble 41 pc) (cond (Nat.beq pc 41) (some (.iload 5, 2, 0, 0, .null, [])) none) (cond (Nat.beq pc 40) (some (.iload_n 3, 1, 0, 0, .null, [])) none))) (cond (Nat.ble 35 pc) (cond (Nat.ble 38 pc) (cond (Nat.beq pc 38) (some (.istore 5, 2, 0, 0, .null, [])) none) (cond (Nat.beq pc 35) (some (.invokestatic 69, 3, 101, 1, .null, [673, 674, 52])) none)) (cond (Nat.beq pc 34) (some (.iaload, 1, 0, 0, .null, [])) none))) (cond (Nat.ble 25 pc) (cond (Nat.ble 29 pc) (cond (Nat.ble 32 pc) (cond (Nat.beq pc 32) (some (.iload 4, 2, 0, 0, .null, [])) none) (cond (Nat.beq pc 29) (some (.getfield 26, 3, 4, 7, .null, [538])) none)) (cond (Nat.ble 28 pc) (cond (Nat.beq pc 28) (some (.aload_n 0, 1, 0, 0, .null, [])) none) (cond (Nat.beq pc 25) (some (.if_icmp .ge 49, 3, 74, 0, .null, [])) none))) (cond (Nat.ble 21 pc) (cond (Nat.ble 22 pc) (cond (Nat.beq pc 22) (some (.getfield 66, 3, 4, 8, .null, [539])) none) (cond (Nat.beq pc 21) (some (.aload_n 0, 1, 0, 0, .null, [])) none)) (cond (Nat.beq pc 19) (some (.iload 4, 2, 0, 0, .null, [])) none)))) (cond (Nat.ble 9 pc) (cond (Nat.ble 14 pc) (cond (Nat.ble 16 pc) (cond (Nat.ble 17 pc) (cond (Nat.beq pc 17) (some (.istore 4, 2, 0, 0, .null, [])) none) (cond (Nat.beq pc 16) (some (.iconst 0, 1, 0, 0, .int 0, [])) none)) (cond (Nat.ble 15 pc) (cond (Nat.beq pc 15) (some (.istore_n 3, 1, 0, 0, .null, [])) none) (cond (Nat.beq pc 14) (some (.iconst 0, 1, 0, 0, .int 0, [])) none))) (cond (Nat.ble 10 pc) (cond (Nat.ble 11 pc) (cond (Nat.beq pc 11) (some (.ifCond .lt 80, 3, 91, 0, .null, [])) none) (cond (Nat.beq pc 10) (some (.iload_n 2, 1, 0, 0, .null, [])) none)) (cond (Nat.beq pc 9) (some (.istore_n 2, 1, 0, 0, .null, [])) none))) (cond (Nat.ble 4 pc) (cond (Nat.ble 7 pc) (cond (Nat.ble 8 pc) (cond (Nat.beq pc 8) (some (.isub, 1, 0, 0, .null, [])) none) (cond (Nat.beq pc 7) (some (.iconst 1, 1, 0, 0, .int 1, [])) none)) (cond (Nat.beq pc 4) (some (.invokevirtual 63, 3, 91, 0, .null, [621, 623, 15, 52])) none)) (cond (Nat.ble 2 pc) (cond (Nat.ble 3 pc) (cond (Nat.beq pc 3) (some (.aload_n 0, 1, 0, 0, .null, [])) none) (cond (Nat.beq pc 2) (some (.istore_n 1, 1, 0, 0, .null, [])) none)) (cond (Nat.beq pc 0) (some (.bipush (-6), 2, 0, 0, .int (-6), [])) none)))))
/-- BraidHornsModel.stepPlaces()V -/
def xI_105 : Nat → Option xEn := fun pc => cond (Nat.ble 16 pc) (cond (Nat.ble 25 pc) (cond (Nat.ble 29 pc) (cond (Nat.ble 32 pc) (cond (Nat.ble 35 pc) (cond (Nat.beq pc 35) (some (.return_, 1, 0, 0, .null, [])) none) (cond (Nat.beq pc 32) (some (.goto (-30), 3, 2, 0, .null, [])) none)) (cond (Nat.beq pc 29) (some (.iinc 1 1, 3, 0, 0, .int (1), [])) none)) (cond (Nat.ble 28 pc) (cond (Nat.beq pc 28) (some (.iastore, 1, 0, 0, .null, [])) none) (cond (Nat.beq pc 25) (some (.invokevirtual 73, 3, 100, 1, .null, [633, 635, 18, 52])) none))) (cond (Nat.ble 20 pc) (cond (Nat.ble 21 pc) (cond (Nat.ble 22 pc) (cond (Nat.beq pc 22) (some (.invokestatic 69, 3, 101, 1, .null, [673, 674, 52])) none) (cond (Nat.beq pc 21) (some (.iaload, 1, 0, 0, .null, [])) none)) (cond (Nat.beq pc 20) (some (.iload_n 1, 1, 0, 0, .null, [])) none)) (cond (Nat.ble 17 pc) (cond (Nat.beq pc 17) (some (.getfield 26, 3, 4, 7, .null, [538])) none) (cond (Nat.beq pc 16) (some (.aload_n 0, 1, 0, 0, .null, [])) none)))) (cond (Nat.ble 7 pc) (cond (Nat.ble 11 pc) (cond (Nat.ble 14 pc) (cond (Nat.ble 15 pc) (cond (Nat.beq pc 15) (some (.aload_n 0, 1, 0, 0, .null, [])) none) (cond (Nat.beq pc 14) (some (.iload_n 1, 1, 0, 0, .null, [])) none)) (cond (Nat.beq pc 11) (some (.getfield 26, 3, 4, 7, .null, [538])) none)) (cond (Nat.ble 10 pc) (cond (Nat.beq pc 10) (some (.aload_n 0, 1, 0, 0, .null, [])) none) (cond (Nat.beq pc 7) (some (.if_icmp .ge 28, 3, 35, 0, .null, [])) none))) (cond (Nat.ble 2 pc) (cond (Nat.ble 3 pc) (cond (Nat.ble 4 pc) (cond (Nat.beq pc 4) (some (.getfield 66, 3, 4, 8, .null, [539])) none) (cond (Nat.beq pc 3) (some (.aload_n 0, 1, 0, 0, .null, [])) none)) (cond (Nat.beq pc 2) (some (.iload_n 1, 1, 0, 0, .null, [])) none)) (cond (Nat.ble 1 pc) (cond (Nat.beq pc 1) (some (.istore_n 1, 1, 0, 0, .null, [])) none) (cond (Nat.beq pc 0) (some (.iconst 0, 1, 0, 0, .int 0, [])) none))))
/-- BraidHornsModel.isValue(II)Z -/
def xI_106 : Nat → Option xEn := fun pc => cond (Nat.ble 23 pc) (cond (Nat.ble 36 pc) (cond (Nat.ble 45 pc) (cond (Nat.ble 49 pc) (cond (Nat.ble 50 pc) (cond (Nat.beq pc 50) (some (.ireturn, 1, 0, 0, .null, [])) none) (cond (Nat.beq pc 49) (some (.iconst 0, 1, 0, 0, .int 0, [])) none)) (cond (Nat.ble 46 pc) (cond (Nat.beq pc 46) (some (.goto 4, 3, 50, 0, .null, [])) none) (cond (Nat.beq pc 45) (some (.iconst 1, 1, 0, 0, .int 1, [])) none))) (cond (Nat.ble 39 pc) (cond (Nat.ble 42 pc) (cond (Nat.beq pc 42) (some (.ifCond .eq 7, 3, 49, 0, .null, [])) none) (cond (Nat.beq pc 39) (some (.invokestatic 36, 3, 88, 3, .null, [579, 580, 52])) none)) (cond (Nat.beq pc 36) (some (.sipush 999, 3, 0, 0, .int 999, [])) none))) (cond (Nat.ble 30 pc) (cond (Nat.ble 34 pc) (cond (Nat.ble 35 pc) (cond (Nat.beq pc 35) (some (.iconst 1, 1, 0, 0, .int 1, [])) none) (cond (Nat.beq pc 34) (some (.iload_n 1, 1, 0, 0, .null, [])) none)) (cond (Nat.ble 31 pc) (cond (Nat.beq pc 31) (some (.if_icmp .ne 18, 3, 49, 0, .null, [])) none) (cond (Nat.beq pc 30) (some (.iconst 2, 1, 0, 0, .int 2, [])) none))) (cond (Nat.ble 26 pc) (cond (Nat.ble 29 pc) (cond (Nat.beq pc 29) (some (.iload_n 0, 1, 0, 0, .null, [])) none) (cond (Nat.beq pc 26) (some (.goto 24, 3, 50, 0, .null, [])) none)) (cond (Nat.beq pc 23) (some (.invokestatic 36, 3, 88, 3, .null, [579, 580, 52])) none)))) (cond (Nat.ble 11 pc) (cond (Nat.ble 16 pc) (cond (Nat.ble 20 pc) (cond (Nat.ble 21 pc) (cond (Nat.beq pc 21) (some (.bipush 9, 2, 0, 0, .int 9, [])) none) (cond (Nat.beq pc 20) (some (.iconst 1, 1, 0, 0, .int 1, [])) none)) (cond (Nat.ble 19 pc) (cond (Nat.beq pc 19) (some (.iload_n 1, 1, 0, 0, .null, [])) none) (cond (Nat.beq pc 16) (some (.if_icmp .ne 13, 3, 29, 0, .null, [])) none))) (cond (Nat.ble 14 pc) (cond (Nat.ble 15 pc) (cond (Nat.beq pc 15) (some (.iconst 1, 1, 0, 0, .int 1, [])) none) (cond (Nat.beq pc 14) (some (.iload_n 0, 1, 0, 0, .null, [])) none)) (cond (Nat.beq pc 11) (some (.goto 39, 3, 50, 0, .null, [])) none))) (cond (Nat.ble 5 pc) (cond (Nat.ble 6 pc) (cond (Nat.ble 8 pc) (cond (Nat.beq pc 8) (some (.invokestatic 36, 3, 88, 3, .null, [579, 580, 52])) none) (cond (Nat.beq pc 6) (some (.bipush 6, 2, 0, 0, .int 6, [])) none)) (cond (Nat.beq pc 5) (some (.iconst 2, 1, 0, 0, .int 2, [])) none)) (cond (Nat.ble 1 pc) (cond (Nat.ble 4 pc) (cond (Nat.beq pc 4) (some (.iload_n 1, 1, 0, 0, .null, [])) none) (cond (Nat.beq pc 1) (some (.ifCond .ne 13, 3, 14, 0, .null, [])) none)) (cond (Nat.beq pc 0) (some (.iload_n 0, 1, 0, 0, .null, [])) none))))
/-- BraidHornsModel.set(II)I -/
def xI_107 : Nat → Option xEn := fun pc => cond (Nat.ble 25 pc) (cond (Nat.ble 36 pc) (cond (Nat.ble 41 pc) (cond (Nat.ble 43 pc) (cond (Nat.ble 44 pc) (cond (Nat.beq pc 44) (some (.ireturn, 1, 0, 0, .null, [])) none) (cond (Nat.beq pc 43) (some (.iload_n 3, 1, 0, 0, .null, [])) none)) (cond (Nat.ble 42 pc) (cond (Nat.beq pc 42) (some (.iastore, 1, 0, 0, .null, [])) none) (cond (Nat.beq pc 41) (some (.iload_n 2, 1, 0, 0, .null, [])) none))) (cond (Nat.ble 37 pc) (cond (Nat.ble 40 pc) (cond (Nat.beq pc 40) (some (.iload_n 1, 1, 0, 0, .null, [])) none) (cond (Nat.beq pc 37) (some (.getfield 7, 3, 4, 0, .null, [531])) none)) (cond (Nat.beq pc 36) (some (.aload_n 0, 1, 0, 0, .null, [])) none))) (cond (Nat.ble 30 pc) (cond (Nat.ble 34 pc) (cond (Nat.ble 35 pc) (cond (Nat.beq pc 35) (some (.istore_n 3, 1, 0, 0, .null, [])) none) (cond (Nat.beq pc 34) (some (.iaload, 1, 0, 0, .null, [])) none)) (cond (Nat.ble 33 pc) (cond (Nat.beq pc 33) (some (.iload_n 1, 1, 0, 0, .null, [])) none) (cond (Nat.beq pc 30) (some (.getfield 7, 3, 4, 0, .null, [531])) none))) (cond (Nat.ble 26 pc) (cond (Nat.ble 29 pc) (cond (Nat.beq pc 29) (some (.aload_n 0, 1, 0, 0, .null, [])) none) (cond (Nat.beq pc 26) (some (.invokevirtual 60, 3, 96, 0, .null, [598, 600, 12, 52])) none)) (cond (Nat.beq pc 25) (some (.aload_n 0, 1, 0, 0, .null, [])) none)))) (cond (Nat.ble 11 pc) (cond (Nat.ble 16 pc) (cond (Nat.ble 22 pc) (cond (Nat.ble 24 pc) (cond (Nat.beq pc 24) (some (.ireturn, 1, 0, 0, .null, [])) none) (cond (Nat.beq pc 22) (some (.bipush (-5), 2, 0, 0, .int (-5), [])) none)) (cond (Nat.ble 19 pc) (cond (Nat.beq pc 19) (some (.ifCond .le 6, 3, 25, 0, .null, [])) none) (cond (Nat.beq pc 16) (some (.invokevirtual 56, 3, 92, 0, .null, [582, 584, 9, 52])) none))) (cond (Nat.ble 12 pc) (cond (Nat.ble 15 pc) (cond (Nat.beq pc 15) (some (.aload_n 0, 1, 0, 0, .null, [])) none) (cond (Nat.beq pc 12) (some (.ifCond .ne 13, 3, 25, 0, .null, [])) none)) (cond (Nat.beq pc 11) (some (.iload_n 1, 1, 0, 0, .null, [])) none))) (cond (Nat.ble 5 pc) (cond (Nat.ble 8 pc) (cond (Nat.ble 10 pc) (cond (Nat.beq pc 10) (some (.ireturn, 1, 0, 0, .null, [])) none) (cond (Nat.beq pc 8) (some (.bipush (-2), 2, 0, 0, .int (-2), [])) none)) (cond (Nat.beq pc 5) (some (.ifCond .ne 6, 3, 11, 0, .null, [])) none)) (cond (Nat.ble 1 pc) (cond (Nat.ble 2 pc) (cond (Nat.beq pc 2) (some (.invokestatic 76, 3, 106, 2, .null, [606, 607, 52])) none) (cond (Nat.beq pc 1) (some (.iload_n 2, 1, 0, 0, .null, [])) none)) (cond (Nat.beq pc 0) (some (.iload_n 1, 1, 0, 0, .null, [])) none))))
/-- BraidHornsModel.isPlace(II)Z -/
def xI_108 : Nat → Option xEn := fun pc => cond (Nat.ble 14 pc) (cond (Nat.ble 20 pc) (cond (Nat.ble 24 pc) (cond (Nat.ble 27 pc) (cond (Nat.ble 28 pc) (cond (Nat.beq pc 28) (some (.ireturn, 1, 0, 0, .null, [])) none) (cond (Nat.beq pc 27) (some (.iconst 0, 1, 0, 0, .int 0, [])) none)) (cond (Nat.beq pc 24) (some (.goto 4, 3, 28, 0, .null, [])) none)) (cond (Nat.ble 23 pc) (cond (Nat.beq pc 23) (some (.iconst 1, 1, 0, 0, .int 1, [])) none) (cond (Nat.beq pc 20) (some (.ifCond .eq 7, 3, 27, 0, .null, [])) none))) (cond (Nat.ble 16 pc) (cond (Nat.ble 17 pc) (cond (Nat.beq pc 17) (some (.invokestatic 36, 3, 88, 3, .null, [579, 580, 52])) none) (cond (Nat.beq pc 16) (some (.iconst 3, 1, 0, 0, .int 3, [])) none)) (cond (Nat.ble 15 pc) (cond (Nat.beq pc 15) (some (.iconst 0, 1, 0, 0, .int 0, [])) none) (cond (Nat.beq pc 14) (some (.iload_n 2, 1, 0, 0, .null, [])) none)))) (cond (Nat.ble 6 pc) (cond (Nat.ble 8 pc) (cond (Nat.ble 11 pc) (cond (Nat.beq pc 11) (some (.ifCond .eq 16, 3, 27, 0, .null, [])) none) (cond (Nat.beq pc 8) (some (.invokestatic 36, 3, 88, 3, .null, [579, 580, 52])) none)) (cond (Nat.ble 7 pc) (cond (Nat.beq pc 7) (some (.isub, 1, 0, 0, .null, [])) none) (cond (Nat.beq pc 6) (some (.iconst 1, 1, 0, 0, .int 1, [])) none))) (cond (Nat.ble 2 pc) (cond (Nat.ble 3 pc) (cond (Nat.beq pc 3) (some (.invokevirtual 63, 3, 91, 0, .null, [621, 623, 15, 52])) none) (cond (Nat.beq pc 2) (some (.aload_n 0, 1, 0, 0, .null, [])) none)) (cond (Nat.ble 1 pc) (cond (Nat.beq pc 1) (some (.iconst 0, 1, 0, 0, .int 0, [])) none) (cond (Nat.beq pc 0) (some (.iload_n 1, 1, 0, 0, .null, [])) none))))
/-- BraidHornsModel.isFree(I)Z -/
def xI_109 : Nat → Option xEn := fun pc => cond (Nat.ble 13 pc) (cond (Nat.ble 24 pc) (cond (Nat.ble 28 pc) (cond (Nat.ble 29 pc) (cond (Nat.beq pc 29) (some (.ireturn, 1, 0, 0, .null, [])) none) (cond (Nat.beq pc 28) (some (.iconst 0, 1, 0, 0, .int 0, [])) none)) (cond (Nat.ble 25 pc) (cond (Nat.beq pc 25) (some (.goto 4, 3, 29, 0, .null, [])) none) (cond (Nat.beq pc 24) (some (.iconst 1, 1, 0, 0, .int 1, [])) none))) (cond (Nat.ble 19 pc) (cond (Nat.ble 21 pc) (cond (Nat.beq pc 21) (some (.if_icmp .ne 7, 3, 28, 0, .null, [])) none) (cond (Nat.beq pc 19) (some (.bipush (-6), 2, 0, 0, .int (-6), [])) none)) (cond (Nat.ble 16 pc) (cond (Nat.beq pc 16) (some (.invokevirtual 80, 3, 94, 1, .null, [629, 631, 17, 52])) none) (cond (Nat.beq pc 13) (some (.invokevirtual 73, 3, 100, 1, .null, [633, 635, 18, 52])) none)))) (cond (Nat.ble 7 pc) (cond (Nat.ble 11 pc) (cond (Nat.ble 12 pc) (cond (Nat.beq pc 12) (some (.iload_n 1, 1, 0, 0, .null, [])) none) (cond (Nat.beq pc 11) (some (.aload_n 0, 1, 0, 0, .null, [])) none)) (cond (Nat.ble 10 pc) (cond (Nat.beq pc 10) (some (.aload_n 0, 1, 0, 0, .null, [])) none) (cond (Nat.beq pc 7) (some (.if_icmp .ne 21, 3, 28, 0, .null, [])) none))) (cond (Nat.ble 2 pc) (cond (Nat.ble 5 pc) (cond (Nat.beq pc 5) (some (.bipush (-6), 2, 0, 0, .int (-6), [])) none) (cond (Nat.beq pc 2) (some (.invokevirtual 80, 3, 94, 1, .null, [629, 631, 17, 52])) none)) (cond (Nat.ble 1 pc) (cond (Nat.beq pc 1) (some (.iload_n 1, 1, 0, 0, .null, [])) none) (cond (Nat.beq pc 0) (some (.aload_n 0, 1, 0, 0, .null, [])) none))))
/-- BraidHornsModel.whyNotCarrier(II)I -/
def xI_110 : Nat → Option xEn := fun pc => cond (Nat.ble 18 pc) (cond (Nat.ble 31 pc) (cond (Nat.ble 39 pc) (cond (Nat.ble 44 pc) (cond (Nat.ble 45 pc) (cond (Nat.beq pc 45) (some (.ireturn, 1, 0, 0, .null, [])) none) (cond (Nat.beq pc 44) (some (.iconst 0, 1, 0, 0, .int 0, [])) none)) (cond (Nat.ble 41 pc) (cond (Nat.beq pc 41) (some (.goto 4, 3, 45, 0, .null, [])) none) (cond (Nat.beq pc 39) (some (.bipush (-4), 2, 0, 0, .int (-4), [])) none))) (cond (Nat.ble 34 pc) (cond (Nat.ble 36 pc) (cond (Nat.beq pc 36) (some (.if_icmp .ne 8, 3, 44, 0, .null, [])) none) (cond (Nat.beq pc 34) (some (.bipush 10, 2, 0, 0, .int 10, [])) none)) (cond (Nat.beq pc 31) (some (.invokevirtual 56, 3, 92, 0, .null, [582, 584, 9, 52])) none))) (cond (Nat.ble 25 pc) (cond (Nat.ble 27 pc) (cond (Nat.ble 30 pc) (cond (Nat.beq pc 30) (some (.aload_n 0, 1, 0, 0, .null, [])) none) (cond (Nat.beq pc 27) (some (.goto 18, 3, 45, 0, .null, [])) none)) (cond (Nat.beq pc 25) (some (.bipush (-5), 2, 0, 0, .int (-5), [])) none)) (cond (Nat.ble 19 pc) (cond (Nat.ble 22 pc) (cond (Nat.beq pc 22) (some (.ifCond .ne 8, 3, 30, 0, .null, [])) none) (cond (Nat.beq pc 19) (some (.invokevirtual 86, 3, 109, 1, .null, [625, 627, 16, 52])) none)) (cond (Nat.beq pc 18) (some (.iadd, 1, 0, 0, .null, [])) none)))) (cond (Nat.ble 10 pc) (cond (Nat.ble 15 pc) (cond (Nat.ble 16 pc) (cond (Nat.ble 17 pc) (cond (Nat.beq pc 17) (some (.iload_n 2, 1, 0, 0, .null, [])) none) (cond (Nat.beq pc 16) (some (.imul, 1, 0, 0, .null, [])) none)) (cond (Nat.beq pc 15) (some (.iload_n 1, 1, 0, 0, .null, [])) none)) (cond (Nat.ble 13 pc) (cond (Nat.ble 14 pc) (cond (Nat.beq pc 14) (some (.iconst 4, 1, 0, 0, .int 4, [])) none) (cond (Nat.beq pc 13) (some (.aload_n 0, 1, 0, 0, .null, [])) none)) (cond (Nat.beq pc 10) (some (.goto 35, 3, 45, 0, .null, [])) none))) (cond (Nat.ble 3 pc) (cond (Nat.ble 6 pc) (cond (Nat.ble 9 pc) (cond (Nat.beq pc 9) (some (.iconst (-1), 1, 0, 0, .int (-1), [])) none) (cond (Nat.beq pc 6) (some (.ifCond .ne 7, 3, 13, 0, .null, [])) none)) (cond (Nat.beq pc 3) (some (.invokevirtual 83, 3, 108, 2, .null, [617, 619, 14, 52])) none)) (cond (Nat.ble 1 pc) (cond (Nat.ble 2 pc) (cond (Nat.beq pc 2) (some (.iload_n 2, 1, 0, 0, .null, [])) none) (cond (Nat.beq pc 1) (some (.iload_n 1, 1, 0, 0, .null, [])) none)) (cond (Nat.beq pc 0) (some (.aload_n 0, 1, 0, 0, .null, [])) none))))
/-- BraidHornsModel.fill(I)V -/
def xI_111 : Nat → Option xEn := fun pc => cond (Nat.ble 16 pc) (cond (Nat.ble 24 pc) (cond (Nat.ble 26 pc) (cond (Nat.ble 27 pc) (cond (Nat.ble 28 pc) (cond (Nat.beq pc 28) (some (.return_, 1, 0, 0, .null, [])) none) (cond (Nat.beq pc 27) (some (.iastore, 1, 0, 0, .null, [])) none)) (cond (Nat.beq pc 26) (some (.iadd, 1, 0, 0, .null, [])) none)) (cond (Nat.ble 25 pc) (cond (Nat.beq pc 25) (some (.iaload, 1, 0, 0, .null, [])) none) (cond (Nat.beq pc 24) (some (.iconst 2, 1, 0, 0, .int 2, [])) none))) (cond (Nat.ble 19 pc) (cond (Nat.ble 20 pc) (cond (Nat.ble 21 pc) (cond (Nat.beq pc 21) (some (.getfield 7, 3, 4, 0, .null, [531])) none) (cond (Nat.beq pc 20) (some (.aload_n 0, 1, 0, 0, .null, [])) none)) (cond (Nat.beq pc 19) (some (.iaload, 1, 0, 0, .null, [])) none)) (cond (Nat.ble 18 pc) (cond (Nat.beq pc 18) (some (.dup2, 1, 0, 0, .null, [])) none) (cond (Nat.beq pc 16) (some (.bipush 7, 2, 0, 0, .int 7, [])) none)))) (cond (Nat.ble 7 pc) (cond (Nat.ble 9 pc) (cond (Nat.ble 12 pc) (cond (Nat.ble 13 pc) (cond (Nat.beq pc 13) (some (.getfield 7, 3, 4, 0, .null, [531])) none) (cond (Nat.beq pc 12) (some (.aload_n 0, 1, 0, 0, .null, [])) none)) (cond (Nat.beq pc 9) (some (.invokevirtual 32, 3, 86, 3, .null, [527, 529, 8, 52])) none)) (cond (Nat.ble 8 pc) (cond (Nat.beq pc 8) (some (.iaload, 1, 0, 0, .null, [])) none) (cond (Nat.beq pc 7) (some (.iconst 2, 1, 0, 0, .int 2, [])) none))) (cond (Nat.ble 2 pc) (cond (Nat.ble 3 pc) (cond (Nat.ble 4 pc) (cond (Nat.beq pc 4) (some (.getfield 7, 3, 4, 0, .null, [531])) none) (cond (Nat.beq pc 3) (some (.aload_n 0, 1, 0, 0, .null, [])) none)) (cond (Nat.beq pc 2) (some (.iconst 1, 1, 0, 0, .int 1, [])) none)) (cond (Nat.ble 1 pc) (cond (Nat.beq pc 1) (some (.iload_n 1, 1, 0, 0, .null, [])) none) (cond (Nat.beq pc 0) (some (.aload_n 0, 1, 0, 0, .null, [])) none))))
/-- BraidHornsModel.carrierNow(II)I -/
def xI_112 : Nat → Option xEn := fun pc => cond (Nat.ble 31 pc) (cond (Nat.ble 45 pc) (cond (Nat.ble 51 pc) (cond (Nat.ble 53 pc) (cond (Nat.ble 56 pc) (cond (Nat.ble 57 pc) (cond (Nat.beq pc 57) (some (.ireturn, 1, 0, 0, .null, [])) none) (cond (Nat.beq pc 56) (some (.iload_n 3, 1, 0, 0, .null, [])) none)) (cond (Nat.beq pc 53) (some (.invokevirtual 89, 3, 111, 1, .null, [641, 643, 20, 52])) none)) (cond (Nat.ble 52 pc) (cond (Nat.beq pc 52) (some (.iload_n 3, 1, 0, 0, .null, [])) none) (cond (Nat.beq pc 51) (some (.aload_n 0, 1, 0, 0, .null, [])) none))) (cond (Nat.ble 47 pc) (cond (Nat.ble 48 pc) (cond (Nat.beq pc 48) (some (.invokevirtual 32, 3, 86, 3, .null, [527, 529, 8, 52])) none) (cond (Nat.beq pc 47) (some (.iadd, 1, 0, 0, .null, [])) none)) (cond (Nat.ble 46 pc) (cond (Nat.beq pc 46) (some (.iload_n 2, 1, 0, 0, .null, [])) none) (cond (Nat.beq pc 45) (some (.imul, 1, 0, 0, .null, [])) none)))) (cond (Nat.ble 41 pc) (cond (Nat.ble 43 pc) (cond (Nat.ble 44 pc) (cond (Nat.beq pc 44) (some (.iload_n 1, 1, 0, 0, .null, [])) none) (cond (Nat.beq pc 43) (some (.iconst 4, 1, 0, 0, .int 4, [])) none)) (cond (Nat.ble 42 pc) (cond (Nat.beq pc 42) (some (.iconst 0, 1, 0, 0, .int 0, [])) none) (cond (Nat.beq pc 41) (some (.iload_n 3, 1, 0, 0, .null, [])) none))) (cond (Nat.ble 37 pc) (cond (Nat.ble 40 pc) (cond (Nat.beq pc 40) (some (.aload_n 0, 1, 0, 0, .null, [])) none) (cond (Nat.beq pc 37) (some (.goto (-18), 3, 19, 0, .null, [])) none)) (cond (Nat.ble 34 pc) (cond (Nat.beq pc 34) (some (.iinc 4 1, 3, 0, 0, .int (1), [])) none) (cond (Nat.beq pc 31) (some (.invokevirtual 32, 3, 86, 3, .null, [527, 529, 8, 52])) none))))) (cond (Nat.ble 16 pc) (cond (Nat.ble 23 pc) (cond (Nat.ble 27 pc) (cond (Nat.ble 28 pc) (cond (Nat.ble 30 pc) (cond (Nat.beq pc 30) (some (.iconst 0, 1, 0, 0, .int 0, [])) none) (cond (Nat.beq pc 28) (some (.iload 4, 2, 0, 0, .null, [])) none)) (cond (Nat.beq pc 27) (some (.iload_n 3, 1, 0, 0, .null, [])) none)) (cond (Nat.ble 26 pc) (cond (Nat.beq pc 26) (some (.aload_n 0, 1, 0, 0, .null, [])) none) (cond (Nat.beq pc 23) (some (.if_icmp .ge 17, 3, 40, 0, .null, [])) none))) (cond (Nat.ble 19 pc) (cond (Nat.ble 21 pc) (cond (Nat.beq pc 21) (some (.bipush 7, 2, 0, 0, .int 7, [])) none) (cond (Nat.beq pc 19) (some (.iload 4, 2, 0, 0, .null, [])) none)) (cond (Nat.ble 17 pc) (cond (Nat.beq pc 17) (some (.istore 4, 2, 0, 0, .null, [])) none) (cond (Nat.beq pc 16) (some (.iconst 0, 1, 0, 0, .int 0, [])) none)))) (cond (Nat.ble 4 pc) (cond (Nat.ble 10 pc) (cond (Nat.ble 13 pc) (cond (Nat.beq pc 13) (some (.goto (-11), 3, 2, 0, .null, [])) none) (cond (Nat.beq pc 10) (some (.iinc 3 1, 3, 0, 0, .int (1), [])) none)) (cond (Nat.ble 7 pc) (cond (Nat.beq pc 7) (some (.ifCond .eq 9, 3, 16, 0, .null, [])) none) (cond (Nat.beq pc 4) (some (.invokevirtual 44, 3, 90, 1, .null, [586, 588, 10, 52])) none))) (cond (Nat.ble 2 pc) (cond (Nat.ble 3 pc) (cond (Nat.beq pc 3) (some (.iload_n 3, 1, 0, 0, .null, [])) none) (cond (Nat.beq pc 2) (some (.aload_n 0, 1, 0, 0, .null, [])) none)) (cond (Nat.ble 1 pc) (cond (Nat.beq pc 1) (some (.istore_n 3, 1, 0, 0, .null, [])) none) (cond (Nat.beq pc 0) (some (.iconst 0, 1, 0, 0, .int 0, [])) none)))))
/-- BraidHornsModel.carrier(II)I -/
def xI_113 : Nat → Option xEn := fun pc => cond (Nat.ble 12 pc) (cond (Nat.ble 18 pc) (cond (Nat.ble 20 pc) (cond (Nat.ble 23 pc) (cond (Nat.beq pc 23) (some (.ireturn, 1, 0, 0, .null, [])) none) (cond (Nat.beq pc 20) (some (.invokevirtual 96, 3, 112, 2, .null, [637, 639, 19, 52])) none)) (cond (Nat.ble 19 pc) (cond (Nat.beq pc 19) (some (.iload_n 2, 1, 0, 0, .null, [])) none) (cond (Nat.beq pc 18) (some (.iload_n 1, 1, 0, 0, .null, [])) none))) (cond (Nat.ble 14 pc) (cond (Nat.ble 17 pc) (cond (Nat.beq pc 17) (some (.aload_n 0, 1, 0, 0, .null, [])) none) (cond (Nat.beq pc 14) (some (.invokevirtual 60, 3, 96, 0, .null, [598, 600, 12, 52])) none)) (cond (Nat.ble 13 pc) (cond (Nat.beq pc 13) (some (.aload_n 0, 1, 0, 0, .null, [])) none) (cond (Nat.beq pc 12) (some (.ireturn, 1, 0, 0, .null, [])) none)))) (cond (Nat.ble 6 pc) (cond (Nat.ble 8 pc) (cond (Nat.ble 11 pc) (cond (Nat.beq pc 11) (some (.iload_n 3, 1, 0, 0, .null, [])) none) (cond (Nat.beq pc 8) (some (.ifCond .ge 5, 3, 13, 0, .null, [])) none)) (cond (Nat.ble 7 pc) (cond (Nat.beq pc 7) (some (.iload_n 3, 1, 0, 0, .null, [])) none) (cond (Nat.beq pc 6) (some (.istore_n 3, 1, 0, 0, .null, [])) none))) (cond (Nat.ble 2 pc) (cond (Nat.ble 3 pc) (cond (Nat.beq pc 3) (some (.invokevirtual 93, 3, 110, 2, .null, [613, 615, 13, 52])) none) (cond (Nat.beq pc 2) (some (.iload_n 2, 1, 0, 0, .null, [])) none)) (cond (Nat.ble 1 pc) (cond (Nat.beq pc 1) (some (.iload_n 1, 1, 0, 0, .null, [])) none) (cond (Nat.beq pc 0) (some (.aload_n 0, 1, 0, 0, .null, [])) none))))
/-- BraidHornsModel.takeOutNow(I)V -/
def xI_114 : Nat → Option xEn := fun pc => cond (Nat.ble 11 pc) (cond (Nat.ble 17 pc) (cond (Nat.ble 19 pc) (cond (Nat.ble 21 pc) (cond (Nat.ble 24 pc) (cond (Nat.beq pc 24) (some (.return_, 1, 0, 0, .null, [])) none) (cond (Nat.beq pc 21) (some (.invokevirtual 32, 3, 86, 3, .null, [527, 529, 8, 52])) none)) (cond (Nat.beq pc 19) (some (.bipush (-6), 2, 0, 0, .int (-6), [])) none)) (cond (Nat.ble 18 pc) (cond (Nat.beq pc 18) (some (.iconst 0, 1, 0, 0, .int 0, [])) none) (cond (Nat.beq pc 17) (some (.iload_n 1, 1, 0, 0, .null, [])) none))) (cond (Nat.ble 15 pc) (cond (Nat.ble 16 pc) (cond (Nat.beq pc 16) (some (.aload_n 0, 1, 0, 0, .null, [])) none) (cond (Nat.beq pc 15) (some (.iastore, 1, 0, 0, .null, [])) none)) (cond (Nat.ble 14 pc) (cond (Nat.beq pc 14) (some (.iadd, 1, 0, 0, .null, [])) none) (cond (Nat.beq pc 11) (some (.invokevirtual 40, 3, 89, 2, .null, [590, 592, 11, 52])) none)))) (cond (Nat.ble 7 pc) (cond (Nat.ble 9 pc) (cond (Nat.ble 10 pc) (cond (Nat.beq pc 10) (some (.iconst 1, 1, 0, 0, .int 1, [])) none) (cond (Nat.beq pc 9) (some (.iload_n 1, 1, 0, 0, .null, [])) none)) (cond (Nat.ble 8 pc) (cond (Nat.beq pc 8) (some (.aload_n 0, 1, 0, 0, .null, [])) none) (cond (Nat.beq pc 7) (some (.iaload, 1, 0, 0, .null, [])) none))) (cond (Nat.ble 4 pc) (cond (Nat.ble 6 pc) (cond (Nat.beq pc 6) (some (.dup2, 1, 0, 0, .null, [])) none) (cond (Nat.beq pc 4) (some (.bipush 6, 2, 0, 0, .int 6, [])) none)) (cond (Nat.ble 1 pc) (cond (Nat.beq pc 1) (some (.getfield 7, 3, 4, 0, .null, [531])) none) (cond (Nat.beq pc 0) (some (.aload_n 0, 1, 0, 0, .null, [])) none))))
/-- BraidHornsModel.takeOut(I)I -/
def xI_115 : Nat → Option xEn := fun pc => cond (Nat.ble 14 pc) (cond (Nat.ble 20 pc) (cond (Nat.ble 22 pc) (cond (Nat.ble 25 pc) (cond (Nat.beq pc 25) (some (.ireturn, 1, 0, 0, .null, [])) none) (cond (Nat.beq pc 22) (some (.invokevirtual 40, 3, 89, 2, .null, [590, 592, 11, 52])) none)) (cond (Nat.ble 21 pc) (cond (Nat.beq pc 21) (some (.iconst 1, 1, 0, 0, .int 1, [])) none) (cond (Nat.beq pc 20) (some (.iload_n 1, 1, 0, 0, .null, [])) none))) (cond (Nat.ble 16 pc) (cond (Nat.ble 19 pc) (cond (Nat.beq pc 19) (some (.aload_n 0, 1, 0, 0, .null, [])) none) (cond (Nat.beq pc 16) (some (.invokevirtual 99, 3, 114, 1, .null, [649, 651, 21, 52])) none)) (cond (Nat.ble 15 pc) (cond (Nat.beq pc 15) (some (.iload_n 1, 1, 0, 0, .null, [])) none) (cond (Nat.beq pc 14) (some (.aload_n 0, 1, 0, 0, .null, [])) none)))) (cond (Nat.ble 8 pc) (cond (Nat.ble 10 pc) (cond (Nat.ble 11 pc) (cond (Nat.beq pc 11) (some (.invokevirtual 60, 3, 96, 0, .null, [598, 600, 12, 52])) none) (cond (Nat.beq pc 10) (some (.aload_n 0, 1, 0, 0, .null, [])) none)) (cond (Nat.ble 9 pc) (cond (Nat.beq pc 9) (some (.ireturn, 1, 0, 0, .null, [])) none) (cond (Nat.beq pc 8) (some (.iconst (-1), 1, 0, 0, .int (-1), [])) none))) (cond (Nat.ble 2 pc) (cond (Nat.ble 5 pc) (cond (Nat.beq pc 5) (some (.ifCond .ne 5, 3, 10, 0, .null, [])) none) (cond (Nat.beq pc 2) (some (.invokevirtual 44, 3, 90, 1, .null, [586, 588, 10, 52])) none)) (cond (Nat.ble 1 pc) (cond (Nat.beq pc 1) (some (.iload_n 1, 1, 0, 0, .null, [])) none) (cond (Nat.beq pc 0) (some (.aload_n 0, 1, 0, 0, .null, [])) none))))
/-- BraidHornsModel.isEmpty()Z -/
def xI_116 : Nat → Option xEn := fun pc => cond (Nat.ble 22 pc) (cond (Nat.ble 32 pc) (cond (Nat.ble 37 pc) (cond (Nat.ble 43 pc) (cond (Nat.ble 44 pc) (cond (Nat.beq pc 44) (some (.ireturn, 1, 0, 0, .null, [])) none) (cond (Nat.beq pc 43) (some (.iload_n 1, 1, 0, 0, .null, [])) none)) (cond (Nat.ble 40 pc) (cond (Nat.beq pc 40) (some (.goto (-36), 3, 4, 0, .null, [])) none) (cond (Nat.beq pc 37) (some (.iinc 2 1, 3, 0, 0, .int (1), [])) none))) (cond (Nat.ble 35 pc) (cond (Nat.ble 36 pc) (cond (Nat.beq pc 36) (some (.istore_n 1, 1, 0, 0, .null, [])) none) (cond (Nat.beq pc 35) (some (.iconst 0, 1, 0, 0, .int 0, [])) none)) (cond (Nat.beq pc 32) (some (.goto 4, 3, 36, 0, .null, [])) none))) (cond (Nat.ble 25 pc) (cond (Nat.ble 28 pc) (cond (Nat.ble 31 pc) (cond (Nat.beq pc 31) (some (.iconst 1, 1, 0, 0, .int 1, [])) none) (cond (Nat.beq pc 28) (some (.ifCond .ne 7, 3, 35, 0, .null, [])) none)) (cond (Nat.beq pc 25) (some (.invokevirtual 40, 3, 89, 2, .null, [590, 592, 11, 52])) none)) (cond (Nat.ble 23 pc) (cond (Nat.ble 24 pc) (cond (Nat.beq pc 24) (some (.iconst 1, 1, 0, 0, .int 1, [])) none) (cond (Nat.beq pc 23) (some (.iload_n 2, 1, 0, 0, .null, [])) none)) (cond (Nat.beq pc 22) (some (.aload_n 0, 1, 0, 0, .null, [])) none)))) (cond (Nat.ble 7 pc) (cond (Nat.ble 14 pc) (cond (Nat.ble 16 pc) (cond (Nat.ble 19 pc) (cond (Nat.beq pc 19) (some (.ifCond .eq 16, 3, 35, 0, .null, [])) none) (cond (Nat.beq pc 16) (some (.invokevirtual 44, 3, 90, 1, .null, [586, 588, 10, 52])) none)) (cond (Nat.ble 15 pc) (cond (Nat.beq pc 15) (some (.iload_n 2, 1, 0, 0, .null, [])) none) (cond (Nat.beq pc 14) (some (.aload_n 0, 1, 0, 0, .null, [])) none))) (cond (Nat.ble 10 pc) (cond (Nat.ble 11 pc) (cond (Nat.beq pc 11) (some (.ifCond .ne 20, 3, 31, 0, .null, [])) none) (cond (Nat.beq pc 10) (some (.iload_n 1, 1, 0, 0, .null, [])) none)) (cond (Nat.beq pc 7) (some (.if_icmp .ge 36, 3, 43, 0, .null, [])) none))) (cond (Nat.ble 3 pc) (cond (Nat.ble 4 pc) (cond (Nat.ble 5 pc) (cond (Nat.beq pc 5) (some (.bipush 10, 2, 0, 0, .int 10, [])) none) (cond (Nat.beq pc 4) (some (.iload_n 2, 1, 0, 0, .null, [])) none)) (cond (Nat.beq pc 3) (some (.istore_n 2, 1, 0, 0, .null, [])) none)) (cond (Nat.ble 1 pc) (cond (Nat.ble 2 pc) (cond (Nat.beq pc 2) (some (.iconst 0, 1, 0, 0, .int 0, [])) none) (cond (Nat.beq pc 1) (some (.istore_n 1, 1, 0, 0, .null, [])) none)) (cond (Nat.beq pc 0) (some (.iconst 0, 1, 0, 0, .int 0, [])) none))))
/-- BraidHornsModel.why()I -/
def xI_117 : Nat → Option xEn := fun pc => cond (Nat.ble 27 pc) (cond (Nat.ble 39 pc) (cond (Nat.ble 47 pc) (cond (Nat.ble 51 pc) (cond (Nat.ble 52 pc) (cond (Nat.beq pc 52) (some (.ireturn, 1, 0, 0, .null, [])) none) (cond (Nat.beq pc 51) (some (.iconst 0, 1, 0, 0, .int 0, [])) none)) (cond (Nat.ble 48 pc) (cond (Nat.beq pc 48) (some (.goto 4, 3, 52, 0, .null, [])) none) (cond (Nat.beq pc 47) (some (.iconst 4, 1, 0, 0, .int 4, [])) none))) (cond (Nat.ble 42 pc) (cond (Nat.ble 44 pc) (cond (Nat.beq pc 44) (some (.if_icmp .eq 7, 3, 51, 0, .null, [])) none) (cond (Nat.beq pc 42) (some (.bipush (-6), 2, 0, 0, .int (-6), [])) none)) (cond (Nat.beq pc 39) (some (.invokevirtual 112, 3, 104, 0, .null, [669, 671, 25, 52])) none))) (cond (Nat.ble 34 pc) (cond (Nat.ble 35 pc) (cond (Nat.ble 38 pc) (cond (Nat.beq pc 38) (some (.aload_n 0, 1, 0, 0, .null, [])) none) (cond (Nat.beq pc 35) (some (.goto 17, 3, 52, 0, .null, [])) none)) (cond (Nat.beq pc 34) (some (.iconst 3, 1, 0, 0, .int 3, [])) none)) (cond (Nat.ble 28 pc) (cond (Nat.ble 31 pc) (cond (Nat.beq pc 31) (some (.ifCond .eq 7, 3, 38, 0, .null, [])) none) (cond (Nat.beq pc 28) (some (.invokevirtual 108, 3, 116, 0, .null, [665, 667, 24, 52])) none)) (cond (Nat.beq pc 27) (some (.aload_n 0, 1, 0, 0, .null, [])) none)))) (cond (Nat.ble 12 pc) (cond (Nat.ble 17 pc) (cond (Nat.ble 23 pc) (cond (Nat.ble 24 pc) (cond (Nat.beq pc 24) (some (.goto 28, 3, 52, 0, .null, [])) none) (cond (Nat.beq pc 23) (some (.iconst 2, 1, 0, 0, .int 2, [])) none)) (cond (Nat.ble 20 pc) (cond (Nat.beq pc 20) (some (.ifCond .le 7, 3, 27, 0, .null, [])) none) (cond (Nat.beq pc 17) (some (.invokevirtual 105, 3, 93, 1, .null, [661, 663, 23, 52])) none))) (cond (Nat.ble 15 pc) (cond (Nat.ble 16 pc) (cond (Nat.beq pc 16) (some (.iconst 2, 1, 0, 0, .int 2, [])) none) (cond (Nat.beq pc 15) (some (.aload_n 0, 1, 0, 0, .null, [])) none)) (cond (Nat.beq pc 12) (some (.goto 40, 3, 52, 0, .null, [])) none))) (cond (Nat.ble 5 pc) (cond (Nat.ble 8 pc) (cond (Nat.ble 11 pc) (cond (Nat.beq pc 11) (some (.iconst 1, 1, 0, 0, .int 1, [])) none) (cond (Nat.beq pc 8) (some (.ifCond .ne 7, 3, 15, 0, .null, [])) none)) (cond (Nat.beq pc 5) (some (.getfield 66, 3, 4, 8, .null, [539])) none)) (cond (Nat.ble 1 pc) (cond (Nat.ble 4 pc) (cond (Nat.beq pc 4) (some (.aload_n 0, 1, 0, 0, .null, [])) none) (cond (Nat.beq pc 1) (some (.invokevirtual 102, 3, 102, 0, .null, [657, 659, 22, 52])) none)) (cond (Nat.beq pc 0) (some (.aload_n 0, 1, 0, 0, .null, [])) none))))
/-- BraidHornsModel.step()V -/
def xI_118 : Nat → Option xEn := fun pc => cond (Nat.ble 80 pc) (cond (Nat.ble 121 pc) (cond (Nat.ble 140 pc) (cond (Nat.ble 151 pc) (cond (Nat.ble 154 pc) (cond (Nat.ble 156 pc) (cond (Nat.ble 157 pc) (cond (Nat.beq pc 157) (some (.return_, 1, 0, 0, .null, [])) none) (cond (Nat.beq pc 156) (some (.iastore, 1, 0, 0, .null, [])) none)) (cond (Nat.ble 155 pc) (cond (Nat.beq pc 155) (some (.iadd, 1, 0, 0, .null, [])) none) (cond (Nat.beq pc 154) (some (.iconst 1, 1, 0, 0, .int 1, [])) none))) (cond (Nat.ble 152 pc) (cond (Nat.ble 153 pc) (cond (Nat.beq pc 153) (some (.iaload, 1, 0, 0, .null, [])) none) (cond (Nat.beq pc 152) (some (.dup2, 1, 0, 0, .null, [])) none)) (cond (Nat.beq pc 151) (some (.iconst 3, 1, 0, 0, .int 3, [])) none))) (cond (Nat.ble 145 pc) (cond (Nat.ble 147 pc) (cond (Nat.ble 148 pc) (cond (Nat.beq pc 148) (some (.getfield 7, 3, 4, 0, .null, [531])) none) (cond (Nat.beq pc 147) (some (.aload_n 0, 1, 0, 0, .null, [])) none)) (cond (Nat.ble 146 pc) (cond (Nat.beq pc 146) (some (.iastore, 1, 0, 0, .null, [])) none) (cond (Nat.beq pc 145) (some (.iadd, 1, 0, 0, .null, [])) none))) (cond (Nat.ble 143 pc) (cond (Nat.ble 144 pc) (cond (Nat.beq pc 144) (some (.iaload, 1, 0, 0, .null, [])) none) (cond (Nat.beq pc 143) (some (.iconst 1, 1, 0, 0, .int 1, [])) none)) (cond (Nat.beq pc 140) (some (.getfield 7, 3, 4, 0, .null, [531])) none)))) (cond (Nat.ble 129 pc) (cond (Nat.ble 136 pc) (cond (Nat.ble 138 pc) (cond (Nat.ble 139 pc) (cond (Nat.beq pc 139) (some (.aload_n 0, 1, 0, 0, .null, [])) none) (cond (Nat.beq pc 138) (some (.iaload, 1, 0, 0, .null, [])) none)) (cond (Nat.ble 137 pc) (cond (Nat.beq pc 137) (some (.dup2, 1, 0, 0, .null, [])) none) (cond (Nat.beq pc 136) (some (.iconst 4, 1, 0, 0, .int 4, [])) none))) (cond (Nat.ble 132 pc) (cond (Nat.ble 133 pc) (cond (Nat.beq pc 133) (some (.getfield 7, 3, 4, 0, .null, [531])) none) (cond (Nat.beq pc 132) (some (.aload_n 0, 1, 0, 0, .null, [])) none)) (cond (Nat.beq pc 129) (some (.goto (-127), 3, 2, 0, .null, [])) none))) (cond (Nat.ble 124 pc) (cond (Nat.ble 125 pc) (cond (Nat.ble 126 pc) (cond (Nat.beq pc 126) (some (.iinc 1 1, 3, 0, 0, .int (1), [])) none) (cond (Nat.beq pc 125) (some (.iastore, 1, 0, 0, .null, [])) none)) (cond (Nat.beq pc 124) (some (.iadd, 1, 0, 0, .null, [])) none)) (cond (Nat.ble 122 pc) (cond (Nat.ble 123 pc) (cond (Nat.beq pc 123) (some (.iconst 1, 1, 0, 0, .int 1, [])) none) (cond (Nat.beq pc 122) (some (.iaload, 1, 0, 0, .null, [])) none)) (cond (Nat.beq pc 121) (some (.dup2, 1, 0, 0, .null, [])) none))))) (cond (Nat.ble 101 pc) (cond (Nat.ble 107 pc) (cond (Nat.ble 112 pc) (cond (Nat.ble 116 pc) (cond (Nat.ble 119 pc) (cond (Nat.beq pc 119) (some (.bipush 8, 2, 0, 0, .int 8, [])) none) (cond (Nat.beq pc 116) (some (.getfield 7, 3, 4, 0, .null, [531])) none)) (cond (Nat.ble 115 pc) (cond (Nat.beq pc 115) (some (.aload_n 0, 1, 0, 0, .null, [])) none) (cond (Nat.beq pc 112) (some (.invokevirtual 32, 3, 86, 3, .null, [527, 529, 8, 52])) none))) (cond (Nat.ble 110 pc) (cond (Nat.ble 111 pc) (cond (Nat.beq pc 111) (some (.iadd, 1, 0, 0, .null, [])) none) (cond (Nat.beq pc 110) (some (.iconst 1, 1, 0, 0, .int 1, [])) none)) (cond (Nat.beq pc 107) (some (.invokevirtual 40, 3, 89, 2, .null, [590, 592, 11, 52])) none))) (cond (Nat.ble 104 pc) (cond (Nat.ble 105 pc) (cond (Nat.ble 106 pc) (cond (Nat.beq pc 106) (some (.iconst 5, 1, 0, 0, .int 5, [])) none) (cond (Nat.beq pc 105) (some (.iload_n 1, 1, 0, 0, .null, [])) none)) (cond (Nat.beq pc 104) (some (.aload_n 0, 1, 0, 0, .null, [])) none)) (cond (Nat.ble 102 pc) (cond (Nat.ble 103 pc) (cond (Nat.beq pc 103) (some (.iconst 5, 1, 0, 0, .int 5, [])) none) (cond (Nat.beq pc 102) (some (.iload_n 1, 1, 0, 0, .null, [])) none)) (cond (Nat.beq pc 101) (some (.aload_n 0, 1, 0, 0, .null, [])) none)))) (cond (Nat.ble 90 pc) (cond (Nat.ble 93 pc) (cond (Nat.ble 97 pc) (cond (Nat.ble 98 pc) (cond (Nat.beq pc 98) (some (.invokevirtual 32, 3, 86, 3, .null, [527, 529, 8, 52])) none) (cond (Nat.beq pc 97) (some (.isub, 1, 0, 0, .null, [])) none)) (cond (Nat.ble 96 pc) (cond (Nat.beq pc 96) (some (.iconst 1, 1, 0, 0, .int 1, [])) none) (cond (Nat.beq pc 93) (some (.invokevirtual 40, 3, 89, 2, .null, [590, 592, 11, 52])) none))) (cond (Nat.ble 91 pc) (cond (Nat.ble 92 pc) (cond (Nat.beq pc 92) (some (.iconst 1, 1, 0, 0, .int 1, [])) none) (cond (Nat.beq pc 91) (some (.iload_n 1, 1, 0, 0, .null, [])) none)) (cond (Nat.beq pc 90) (some (.aload_n 0, 1, 0, 0, .null, [])) none))) (cond (Nat.ble 87 pc) (cond (Nat.ble 88 pc) (cond (Nat.ble 89 pc) (cond (Nat.beq pc 89) (some (.iconst 1, 1, 0, 0, .int 1, [])) none) (cond (Nat.beq pc 88) (some (.iload_n 1, 1, 0, 0, .null, [])) none)) (cond (Nat.beq pc 87) (some (.aload_n 0, 1, 0, 0, .null, [])) none)) (cond (Nat.ble 81 pc) (cond (Nat.ble 84 pc) (cond (Nat.beq pc 84) (some (.invokevirtual 32, 3, 86, 3, .null, [527, 529, 8, 52])) none) (cond (Nat.beq pc 81) (some (.invokevirtual 73, 3, 100, 1, .null, [633, 635, 18, 52])) none)) (cond (Nat.beq pc 80) (some (.iload_n 2, 1, 0, 0, .null, [])) none)))))) (cond (Nat.ble 39 pc) (cond (Nat.ble 60 pc) (cond (Nat.ble 71 pc) (cond (Nat.ble 76 pc) (cond (Nat.ble 78 pc) (cond (Nat.ble 79 pc) (cond (Nat.beq pc 79) (some (.aload_n 0, 1, 0, 0, .null, [])) none) (cond (Nat.beq pc 78) (some (.iconst 0, 1, 0, 0, .int 0, [])) none)) (cond (Nat.ble 77 pc) (cond (Nat.beq pc 77) (some (.iload_n 1, 1, 0, 0, .null, [])) none) (cond (Nat.beq pc 76) (some (.aload_n 0, 1, 0, 0, .null, [])) none))) (cond (Nat.ble 72 pc) (cond (Nat.ble 73 pc) (cond (Nat.beq pc 73) (some (.invokevirtual 32, 3, 86, 3, .null, [527, 529, 8, 52])) none) (cond (Nat.beq pc 72) (some (.iadd, 1, 0, 0, .null, [])) none)) (cond (Nat.beq pc 71) (some (.iconst 0, 1, 0, 0, .int 0, [])) none))) (cond (Nat.ble 63 pc) (cond (Nat.ble 67 pc) (cond (Nat.ble 68 pc) (cond (Nat.beq pc 68) (some (.goto 4, 3, 72, 0, .null, [])) none) (cond (Nat.beq pc 67) (some (.iconst 1, 1, 0, 0, .int 1, [])) none)) (cond (Nat.ble 64 pc) (cond (Nat.beq pc 64) (some (.if_icmp .ne 7, 3, 71, 0, .null, [])) none) (cond (Nat.beq pc 63) (some (.iconst 3, 1, 0, 0, .int 3, [])) none))) (cond (Nat.ble 61 pc) (cond (Nat.ble 62 pc) (cond (Nat.beq pc 62) (some (.irem, 1, 0, 0, .null, [])) none) (cond (Nat.beq pc 61) (some (.iconst 4, 1, 0, 0, .int 4, [])) none)) (cond (Nat.beq pc 60) (some (.iload_n 2, 1, 0, 0, .null, [])) none)))) (cond (Nat.ble 51 pc) (cond (Nat.ble 54 pc) (cond (Nat.ble 56 pc) (cond (Nat.ble 57 pc) (cond (Nat.beq pc 57) (some (.invokevirtual 40, 3, 89, 2, .null, [590, 592, 11, 52])) none) (cond (Nat.beq pc 56) (some (.iconst 4, 1, 0, 0, .int 4, [])) none)) (cond (Nat.ble 55 pc) (cond (Nat.beq pc 55) (some (.iload_n 1, 1, 0, 0, .null, [])) none) (cond (Nat.beq pc 54) (some (.aload_n 0, 1, 0, 0, .null, [])) none))) (cond (Nat.ble 52 pc) (cond (Nat.ble 53 pc) (cond (Nat.beq pc 53) (some (.iconst 4, 1, 0, 0, .int 4, [])) none) (cond (Nat.beq pc 52) (some (.iload_n 1, 1, 0, 0, .null, [])) none)) (cond (Nat.beq pc 51) (some (.aload_n 0, 1, 0, 0, .null, [])) none))) (cond (Nat.ble 46 pc) (cond (Nat.ble 47 pc) (cond (Nat.ble 48 pc) (cond (Nat.beq pc 48) (some (.invokevirtual 32, 3, 86, 3, .null, [527, 529, 8, 52])) none) (cond (Nat.beq pc 47) (some (.iadd, 1, 0, 0, .null, [])) none)) (cond (Nat.beq pc 46) (some (.iconst 0, 1, 0, 0, .int 0, [])) none)) (cond (Nat.ble 42 pc) (cond (Nat.ble 43 pc) (cond (Nat.beq pc 43) (some (.goto 4, 3, 47, 0, .null, [])) none) (cond (Nat.beq pc 42) (some (.iconst 1, 1, 0, 0, .int 1, [])) none)) (cond (Nat.beq pc 39) (some (.if_icmp .ne 7, 3, 46, 0, .null, [])) none))))) (cond (Nat.ble 22 pc) (cond (Nat.ble 30 pc) (cond (Nat.ble 35 pc) (cond (Nat.ble 37 pc) (cond (Nat.ble 38 pc) (cond (Nat.beq pc 38) (some (.iconst 1, 1, 0, 0, .int 1, [])) none) (cond (Nat.beq pc 37) (some (.irem, 1, 0, 0, .null, [])) none)) (cond (Nat.ble 36 pc) (cond (Nat.beq pc 36) (some (.iconst 4, 1, 0, 0, .int 4, [])) none) (cond (Nat.beq pc 35) (some (.iload_n 2, 1, 0, 0, .null, [])) none))) (cond (Nat.ble 31 pc) (cond (Nat.ble 32 pc) (cond (Nat.beq pc 32) (some (.invokevirtual 40, 3, 89, 2, .null, [590, 592, 11, 52])) none) (cond (Nat.beq pc 31) (some (.iconst 3, 1, 0, 0, .int 3, [])) none)) (cond (Nat.beq pc 30) (some (.iload_n 1, 1, 0, 0, .null, [])) none))) (cond (Nat.ble 27 pc) (cond (Nat.ble 28 pc) (cond (Nat.ble 29 pc) (cond (Nat.beq pc 29) (some (.aload_n 0, 1, 0, 0, .null, [])) none) (cond (Nat.beq pc 28) (some (.iconst 3, 1, 0, 0, .int 3, [])) none)) (cond (Nat.beq pc 27) (some (.iload_n 1, 1, 0, 0, .null, [])) none)) (cond (Nat.ble 25 pc) (cond (Nat.ble 26 pc) (cond (Nat.beq pc 26) (some (.aload_n 0, 1, 0, 0, .null, [])) none) (cond (Nat.beq pc 25) (some (.istore_n 2, 1, 0, 0, .null, [])) none)) (cond (Nat.beq pc 22) (some (.invokestatic 69, 3, 101, 1, .null, [673, 674, 52])) none)))) (cond (Nat.ble 9 pc) (cond (Nat.ble 16 pc) (cond (Nat.ble 18 pc) (cond (Nat.ble 19 pc) (cond (Nat.beq pc 19) (some (.invokevirtual 40, 3, 89, 2, .null, [590, 592, 11, 52])) none) (cond (Nat.beq pc 18) (some (.iconst 0, 1, 0, 0, .int 0, [])) none)) (cond (Nat.ble 17 pc) (cond (Nat.beq pc 17) (some (.iload_n 1, 1, 0, 0, .null, [])) none) (cond (Nat.beq pc 16) (some (.aload_n 0, 1, 0, 0, .null, [])) none))) (cond (Nat.ble 10 pc) (cond (Nat.ble 13 pc) (cond (Nat.beq pc 13) (some (.ifCond .eq 113, 3, 126, 0, .null, [])) none) (cond (Nat.beq pc 10) (some (.invokevirtual 44, 3, 90, 1, .null, [586, 588, 10, 52])) none)) (cond (Nat.beq pc 9) (some (.iload_n 1, 1, 0, 0, .null, [])) none))) (cond (Nat.ble 3 pc) (cond (Nat.ble 5 pc) (cond (Nat.ble 8 pc) (cond (Nat.beq pc 8) (some (.aload_n 0, 1, 0, 0, .null, [])) none) (cond (Nat.beq pc 5) (some (.if_icmp .ge 127, 3, 132, 0, .null, [])) none)) (cond (Nat.beq pc 3) (some (.bipush 10, 2, 0, 0, .int 10, [])) none)) (cond (Nat.ble 1 pc) (cond (Nat.ble 2 pc) (cond (Nat.beq pc 2) (some (.iload_n 1, 1, 0, 0, .null, [])) none) (cond (Nat.beq pc 1) (some (.istore_n 1, 1, 0, 0, .null, [])) none)) (cond (Nat.beq pc 0) (some (.iconst 0, 1, 0, 0, .int 0, [])) none))))))
/-- BraidHornsModel.whyNotRun(I)I -/
def xI_119 : Nat → Option xEn := fun pc => cond (Nat.ble 19 pc) (cond (Nat.ble 26 pc) (cond (Nat.ble 31 pc) (cond (Nat.ble 34 pc) (cond (Nat.ble 35 pc) (cond (Nat.beq pc 35) (some (.ireturn, 1, 0, 0, .null, [])) none) (cond (Nat.beq pc 34) (some (.iconst 0, 1, 0, 0, .int 0, [])) none)) (cond (Nat.beq pc 31) (some (.goto 4, 3, 35, 0, .null, [])) none)) (cond (Nat.ble 29 pc) (cond (Nat.beq pc 29) (some (.bipush (-5), 2, 0, 0, .int (-5), [])) none) (cond (Nat.beq pc 26) (some (.if_icmp .le 8, 3, 34, 0, .null, [])) none))) (cond (Nat.ble 21 pc) (cond (Nat.ble 22 pc) (cond (Nat.ble 23 pc) (cond (Nat.beq pc 23) (some (.sipush 9999, 3, 0, 0, .int 9999, [])) none) (cond (Nat.beq pc 22) (some (.iadd, 1, 0, 0, .null, [])) none)) (cond (Nat.beq pc 21) (some (.iload_n 1, 1, 0, 0, .null, [])) none)) (cond (Nat.ble 20 pc) (cond (Nat.beq pc 20) (some (.iaload, 1, 0, 0, .null, [])) none) (cond (Nat.beq pc 19) (some (.iconst 3, 1, 0, 0, .int 3, [])) none)))) (cond (Nat.ble 7 pc) (cond (Nat.ble 12 pc) (cond (Nat.ble 15 pc) (cond (Nat.ble 16 pc) (cond (Nat.beq pc 16) (some (.getfield 7, 3, 4, 0, .null, [531])) none) (cond (Nat.beq pc 15) (some (.aload_n 0, 1, 0, 0, .null, [])) none)) (cond (Nat.beq pc 12) (some (.goto 23, 3, 35, 0, .null, [])) none)) (cond (Nat.ble 10 pc) (cond (Nat.beq pc 10) (some (.bipush (-2), 2, 0, 0, .int (-2), [])) none) (cond (Nat.beq pc 7) (some (.ifCond .ne 8, 3, 15, 0, .null, [])) none))) (cond (Nat.ble 2 pc) (cond (Nat.ble 4 pc) (cond (Nat.beq pc 4) (some (.invokestatic 36, 3, 88, 3, .null, [579, 580, 52])) none) (cond (Nat.beq pc 2) (some (.bipush 99, 2, 0, 0, .int 99, [])) none)) (cond (Nat.ble 1 pc) (cond (Nat.beq pc 1) (some (.iconst 1, 1, 0, 0, .int 1, [])) none) (cond (Nat.beq pc 0) (some (.iload_n 1, 1, 0, 0, .null, [])) none))))
/-- BraidHornsModel.runNow(I)I -/
def xI_120 : Nat → Option xEn := fun pc => cond (Nat.ble 28 pc) (cond (Nat.ble 43 pc) (cond (Nat.ble 53 pc) (cond (Nat.ble 55 pc) (cond (Nat.ble 58 pc) (cond (Nat.ble 59 pc) (cond (Nat.beq pc 59) (some (.ireturn, 1, 0, 0, .null, [])) none) (cond (Nat.beq pc 58) (some (.iload_n 2, 1, 0, 0, .null, [])) none)) (cond (Nat.beq pc 55) (some (.goto (-42), 3, 13, 0, .null, [])) none)) (cond (Nat.ble 54 pc) (cond (Nat.beq pc 54) (some (.iastore, 1, 0, 0, .null, [])) none) (cond (Nat.beq pc 53) (some (.iconst 0, 1, 0, 0, .int 0, [])) none))) (cond (Nat.ble 47 pc) (cond (Nat.ble 50 pc) (cond (Nat.beq pc 50) (some (.goto 4, 3, 54, 0, .null, [])) none) (cond (Nat.beq pc 47) (some (.invokevirtual 115, 3, 117, 0, .null, [688, 654, 655, 52])) none)) (cond (Nat.ble 46 pc) (cond (Nat.beq pc 46) (some (.aload_n 0, 1, 0, 0, .null, [])) none) (cond (Nat.beq pc 43) (some (.if_icmp .ge 10, 3, 53, 0, .null, [])) none)))) (cond (Nat.ble 36 pc) (cond (Nat.ble 41 pc) (cond (Nat.ble 42 pc) (cond (Nat.beq pc 42) (some (.iload_n 1, 1, 0, 0, .null, [])) none) (cond (Nat.beq pc 41) (some (.iload_n 2, 1, 0, 0, .null, [])) none)) (cond (Nat.ble 39 pc) (cond (Nat.beq pc 39) (some (.bipush 9, 2, 0, 0, .int 9, [])) none) (cond (Nat.beq pc 36) (some (.getfield 7, 3, 4, 0, .null, [531])) none))) (cond (Nat.ble 32 pc) (cond (Nat.ble 35 pc) (cond (Nat.beq pc 35) (some (.aload_n 0, 1, 0, 0, .null, [])) none) (cond (Nat.beq pc 32) (some (.iinc 2 1, 3, 0, 0, .int (1), [])) none)) (cond (Nat.ble 29 pc) (cond (Nat.beq pc 29) (some (.invokevirtual 118, 3, 118, 0, .null, [689, 691, 28, 52])) none) (cond (Nat.beq pc 28) (some (.aload_n 0, 1, 0, 0, .null, [])) none))))) (cond (Nat.ble 13 pc) (cond (Nat.ble 19 pc) (cond (Nat.ble 24 pc) (cond (Nat.ble 25 pc) (cond (Nat.beq pc 25) (some (.ifCond .ne 33, 3, 58, 0, .null, [])) none) (cond (Nat.beq pc 24) (some (.iaload, 1, 0, 0, .null, [])) none)) (cond (Nat.ble 22 pc) (cond (Nat.beq pc 22) (some (.bipush 9, 2, 0, 0, .int 9, [])) none) (cond (Nat.beq pc 19) (some (.getfield 7, 3, 4, 0, .null, [531])) none))) (cond (Nat.ble 15 pc) (cond (Nat.ble 18 pc) (cond (Nat.beq pc 18) (some (.aload_n 0, 1, 0, 0, .null, [])) none) (cond (Nat.beq pc 15) (some (.if_icmp .ge 43, 3, 58, 0, .null, [])) none)) (cond (Nat.ble 14 pc) (cond (Nat.beq pc 14) (some (.iload_n 1, 1, 0, 0, .null, [])) none) (cond (Nat.beq pc 13) (some (.iload_n 2, 1, 0, 0, .null, [])) none)))) (cond (Nat.ble 6 pc) (cond (Nat.ble 9 pc) (cond (Nat.ble 12 pc) (cond (Nat.beq pc 12) (some (.iastore, 1, 0, 0, .null, [])) none) (cond (Nat.beq pc 9) (some (.invokevirtual 115, 3, 117, 0, .null, [688, 654, 655, 52])) none)) (cond (Nat.ble 8 pc) (cond (Nat.beq pc 8) (some (.aload_n 0, 1, 0, 0, .null, [])) none) (cond (Nat.beq pc 6) (some (.bipush 9, 2, 0, 0, .int 9, [])) none))) (cond (Nat.ble 2 pc) (cond (Nat.ble 3 pc) (cond (Nat.beq pc 3) (some (.getfield 7, 3, 4, 0, .null, [531])) none) (cond (Nat.beq pc 2) (some (.aload_n 0, 1, 0, 0, .null, [])) none)) (cond (Nat.ble 1 pc) (cond (Nat.beq pc 1) (some (.istore_n 2, 1, 0, 0, .null, [])) none) (cond (Nat.beq pc 0) (some (.iconst 0, 1, 0, 0, .int 0, [])) none)))))
/-- BraidHornsModel.run(I)I -/
def xI_121 : Nat → Option xEn := fun pc => cond (Nat.ble 11 pc) (cond (Nat.ble 16 pc) (cond (Nat.ble 18 pc) (cond (Nat.ble 21 pc) (cond (Nat.beq pc 21) (some (.ireturn, 1, 0, 0, .null, [])) none) (cond (Nat.beq pc 18) (some (.invokevirtual 124, 3, 120, 1, .null, [684, 686, 27, 52])) none)) (cond (Nat.ble 17 pc) (cond (Nat.beq pc 17) (some (.iload_n 1, 1, 0, 0, .null, [])) none) (cond (Nat.beq pc 16) (some (.aload_n 0, 1, 0, 0, .null, [])) none))) (cond (Nat.ble 12 pc) (cond (Nat.ble 13 pc) (cond (Nat.beq pc 13) (some (.invokevirtual 60, 3, 96, 0, .null, [598, 600, 12, 52])) none) (cond (Nat.beq pc 12) (some (.aload_n 0, 1, 0, 0, .null, [])) none)) (cond (Nat.beq pc 11) (some (.ireturn, 1, 0, 0, .null, [])) none))) (cond (Nat.ble 5 pc) (cond (Nat.ble 7 pc) (cond (Nat.ble 10 pc) (cond (Nat.beq pc 10) (some (.iload_n 2, 1, 0, 0, .null, [])) none) (cond (Nat.beq pc 7) (some (.ifCond .ge 5, 3, 12, 0, .null, [])) none)) (cond (Nat.ble 6 pc) (cond (Nat.beq pc 6) (some (.iload_n 2, 1, 0, 0, .null, [])) none) (cond (Nat.beq pc 5) (some (.istore_n 2, 1, 0, 0, .null, [])) none))) (cond (Nat.ble 1 pc) (cond (Nat.ble 2 pc) (cond (Nat.beq pc 2) (some (.invokevirtual 121, 3, 119, 1, .null, [680, 682, 26, 52])) none) (cond (Nat.beq pc 1) (some (.iload_n 1, 1, 0, 0, .null, [])) none)) (cond (Nat.beq pc 0) (some (.aload_n 0, 1, 0, 0, .null, [])) none)))
/-- BraidHornsModel.whyNotEnd(II)I -/
def xI_122 : Nat → Option xEn := fun pc => cond (Nat.ble 14 pc) (cond (Nat.ble 22 pc) (cond (Nat.ble 26 pc) (cond (Nat.ble 28 pc) (cond (Nat.beq pc 28) (some (.ireturn, 1, 0, 0, .null, [])) none) (cond (Nat.beq pc 26) (some (.bipush (-5), 2, 0, 0, .int (-5), [])) none)) (cond (Nat.ble 23 pc) (cond (Nat.beq pc 23) (some (.goto 5, 3, 28, 0, .null, [])) none) (cond (Nat.beq pc 22) (some (.iconst 0, 1, 0, 0, .int 0, [])) none))) (cond (Nat.ble 18 pc) (cond (Nat.ble 19 pc) (cond (Nat.beq pc 19) (some (.if_icmp .ne 7, 3, 26, 0, .null, [])) none) (cond (Nat.beq pc 18) (some (.iload_n 2, 1, 0, 0, .null, [])) none)) (cond (Nat.ble 15 pc) (cond (Nat.beq pc 15) (some (.invokevirtual 40, 3, 89, 2, .null, [590, 592, 11, 52])) none) (cond (Nat.beq pc 14) (some (.iconst 2, 1, 0, 0, .int 2, [])) none)))) (cond (Nat.ble 8 pc) (cond (Nat.ble 12 pc) (cond (Nat.ble 13 pc) (cond (Nat.beq pc 13) (some (.iload_n 1, 1, 0, 0, .null, [])) none) (cond (Nat.beq pc 12) (some (.aload_n 0, 1, 0, 0, .null, [])) none)) (cond (Nat.ble 9 pc) (cond (Nat.beq pc 9) (some (.goto 19, 3, 28, 0, .null, [])) none) (cond (Nat.beq pc 8) (some (.iconst (-1), 1, 0, 0, .int (-1), [])) none))) (cond (Nat.ble 2 pc) (cond (Nat.ble 5 pc) (cond (Nat.beq pc 5) (some (.ifCond .ne 7, 3, 12, 0, .null, [])) none) (cond (Nat.beq pc 2) (some (.invokevirtual 44, 3, 90, 1, .null, [586, 588, 10, 52])) none)) (cond (Nat.ble 1 pc) (cond (Nat.beq pc 1) (some (.iload_n 1, 1, 0, 0, .null, [])) none) (cond (Nat.beq pc 0) (some (.aload_n 0, 1, 0, 0, .null, [])) none))))
/-- BraidHornsModel.snap(I)I -/
def xI_123 : Nat → Option xEn := fun pc => cond (Nat.ble 14 pc) (cond (Nat.ble 21 pc) (cond (Nat.ble 25 pc) (cond (Nat.ble 26 pc) (cond (Nat.ble 29 pc) (cond (Nat.beq pc 29) (some (.ireturn, 1, 0, 0, .null, [])) none) (cond (Nat.beq pc 26) (some (.invokevirtual 105, 3, 93, 1, .null, [661, 663, 23, 52])) none)) (cond (Nat.beq pc 25) (some (.iconst 2, 1, 0, 0, .int 2, [])) none)) (cond (Nat.ble 24 pc) (cond (Nat.beq pc 24) (some (.aload_n 0, 1, 0, 0, .null, [])) none) (cond (Nat.beq pc 21) (some (.invokevirtual 32, 3, 86, 3, .null, [527, 529, 8, 52])) none))) (cond (Nat.ble 18 pc) (cond (Nat.ble 19 pc) (cond (Nat.ble 20 pc) (cond (Nat.beq pc 20) (some (.iconst 1, 1, 0, 0, .int 1, [])) none) (cond (Nat.beq pc 19) (some (.iconst 2, 1, 0, 0, .int 2, [])) none)) (cond (Nat.beq pc 18) (some (.iload_n 1, 1, 0, 0, .null, [])) none)) (cond (Nat.ble 17 pc) (cond (Nat.beq pc 17) (some (.aload_n 0, 1, 0, 0, .null, [])) none) (cond (Nat.beq pc 14) (some (.invokevirtual 60, 3, 96, 0, .null, [598, 600, 12, 52])) none)))) (cond (Nat.ble 7 pc) (cond (Nat.ble 11 pc) (cond (Nat.ble 12 pc) (cond (Nat.ble 13 pc) (cond (Nat.beq pc 13) (some (.aload_n 0, 1, 0, 0, .null, [])) none) (cond (Nat.beq pc 12) (some (.ireturn, 1, 0, 0, .null, [])) none)) (cond (Nat.beq pc 11) (some (.iload_n 2, 1, 0, 0, .null, [])) none)) (cond (Nat.ble 8 pc) (cond (Nat.beq pc 8) (some (.ifCond .ge 5, 3, 13, 0, .null, [])) none) (cond (Nat.beq pc 7) (some (.iload_n 2, 1, 0, 0, .null, [])) none))) (cond (Nat.ble 2 pc) (cond (Nat.ble 3 pc) (cond (Nat.ble 6 pc) (cond (Nat.beq pc 6) (some (.istore_n 2, 1, 0, 0, .null, [])) none) (cond (Nat.beq pc 3) (some (.invokevirtual 127, 3, 122, 2, .null, [697, 699, 29, 52])) none)) (cond (Nat.beq pc 2) (some (.iconst 0, 1, 0, 0, .int 0, [])) none)) (cond (Nat.ble 1 pc) (cond (Nat.beq pc 1) (some (.iload_n 1, 1, 0, 0, .null, [])) none) (cond (Nat.beq pc 0) (some (.aload_n 0, 1, 0, 0, .null, [])) none))))
/-- BraidHornsModel.tieNow(I)V -/
def xI_124 : Nat → Option xEn := fun pc => cond (Nat.ble 11 pc) (cond (Nat.ble 14 pc) (cond (Nat.ble 16 pc) (cond (Nat.ble 17 pc) (cond (Nat.beq pc 17) (some (.return_, 1, 0, 0, .null, [])) none) (cond (Nat.beq pc 16) (some (.iastore, 1, 0, 0, .null, [])) none)) (cond (Nat.ble 15 pc) (cond (Nat.beq pc 15) (some (.iadd, 1, 0, 0, .null, [])) none) (cond (Nat.beq pc 14) (some (.iconst 1, 1, 0, 0, .int 1, [])) none))) (cond (Nat.ble 12 pc) (cond (Nat.ble 13 pc) (cond (Nat.beq pc 13) (some (.iaload, 1, 0, 0, .null, [])) none) (cond (Nat.beq pc 12) (some (.dup2, 1, 0, 0, .null, [])) none)) (cond (Nat.beq pc 11) (some (.iconst 5, 1, 0, 0, .int 5, [])) none))) (cond (Nat.ble 3 pc) (cond (Nat.ble 7 pc) (cond (Nat.ble 8 pc) (cond (Nat.beq pc 8) (some (.getfield 7, 3, 4, 0, .null, [531])) none) (cond (Nat.beq pc 7) (some (.aload_n 0, 1, 0, 0, .null, [])) none)) (cond (Nat.ble 4 pc) (cond (Nat.beq pc 4) (some (.invokevirtual 32, 3, 86, 3, .null, [527, 529, 8, 52])) none) (cond (Nat.beq pc 3) (some (.iconst 0, 1, 0, 0, .int 0, [])) none))) (cond (Nat.ble 1 pc) (cond (Nat.ble 2 pc) (cond (Nat.beq pc 2) (some (.iconst 2, 1, 0, 0, .int 2, [])) none) (cond (Nat.beq pc 1) (some (.iload_n 1, 1, 0, 0, .null, [])) none)) (cond (Nat.beq pc 0) (some (.aload_n 0, 1, 0, 0, .null, [])) none)))
/-- BraidHornsModel.tie(I)I -/
def xI_125 : Nat → Option xEn := fun pc => cond (Nat.ble 13 pc) (cond (Nat.ble 22 pc) (cond (Nat.ble 26 pc) (cond (Nat.ble 27 pc) (cond (Nat.ble 28 pc) (cond (Nat.beq pc 28) (some (.ireturn, 1, 0, 0, .null, [])) none) (cond (Nat.beq pc 27) (some (.iaload, 1, 0, 0, .null, [])) none)) (cond (Nat.beq pc 26) (some (.iconst 5, 1, 0, 0, .int 5, [])) none)) (cond (Nat.ble 23 pc) (cond (Nat.beq pc 23) (some (.getfield 7, 3, 4, 0, .null, [531])) none) (cond (Nat.beq pc 22) (some (.aload_n 0, 1, 0, 0, .null, [])) none))) (cond (Nat.ble 17 pc) (cond (Nat.ble 18 pc) (cond (Nat.ble 19 pc) (cond (Nat.beq pc 19) (some (.invokevirtual 130, 3, 124, 1, .null, [705, 707, 30, 52])) none) (cond (Nat.beq pc 18) (some (.iload_n 1, 1, 0, 0, .null, [])) none)) (cond (Nat.beq pc 17) (some (.aload_n 0, 1, 0, 0, .null, [])) none)) (cond (Nat.ble 14 pc) (cond (Nat.beq pc 14) (some (.invokevirtual 60, 3, 96, 0, .null, [598, 600, 12, 52])) none) (cond (Nat.beq pc 13) (some (.aload_n 0, 1, 0, 0, .null, [])) none)))) (cond (Nat.ble 6 pc) (cond (Nat.ble 8 pc) (cond (Nat.ble 11 pc) (cond (Nat.ble 12 pc) (cond (Nat.beq pc 12) (some (.ireturn, 1, 0, 0, .null, [])) none) (cond (Nat.beq pc 11) (some (.iload_n 2, 1, 0, 0, .null, [])) none)) (cond (Nat.beq pc 8) (some (.ifCond .ge 5, 3, 13, 0, .null, [])) none)) (cond (Nat.ble 7 pc) (cond (Nat.beq pc 7) (some (.iload_n 2, 1, 0, 0, .null, [])) none) (cond (Nat.beq pc 6) (some (.istore_n 2, 1, 0, 0, .null, [])) none))) (cond (Nat.ble 2 pc) (cond (Nat.ble 3 pc) (cond (Nat.beq pc 3) (some (.invokevirtual 127, 3, 122, 2, .null, [697, 699, 29, 52])) none) (cond (Nat.beq pc 2) (some (.iconst 1, 1, 0, 0, .int 1, [])) none)) (cond (Nat.ble 1 pc) (cond (Nat.beq pc 1) (some (.iload_n 1, 1, 0, 0, .null, [])) none) (cond (Nat.beq pc 0) (some (.aload_n 0, 1, 0, 0, .null, [])) none))))
/-- BraidHornsModel.refillNow(I)V -/
def xI_126 : Nat → Option xEn := fun pc => cond (Nat.ble 10 pc) (cond (Nat.ble 16 pc) (cond (Nat.ble 18 pc) (cond (Nat.ble 21 pc) (cond (Nat.beq pc 21) (some (.return_, 1, 0, 0, .null, [])) none) (cond (Nat.beq pc 18) (some (.invokevirtual 89, 3, 111, 1, .null, [641, 643, 20, 52])) none)) (cond (Nat.ble 17 pc) (cond (Nat.beq pc 17) (some (.iload_n 1, 1, 0, 0, .null, [])) none) (cond (Nat.beq pc 16) (some (.aload_n 0, 1, 0, 0, .null, [])) none))) (cond (Nat.ble 14 pc) (cond (Nat.ble 15 pc) (cond (Nat.beq pc 15) (some (.iastore, 1, 0, 0, .null, [])) none) (cond (Nat.beq pc 14) (some (.iadd, 1, 0, 0, .null, [])) none)) (cond (Nat.ble 11 pc) (cond (Nat.beq pc 11) (some (.invokevirtual 40, 3, 89, 2, .null, [590, 592, 11, 52])) none) (cond (Nat.beq pc 10) (some (.iconst 1, 1, 0, 0, .int 1, [])) none)))) (cond (Nat.ble 6 pc) (cond (Nat.ble 8 pc) (cond (Nat.ble 9 pc) (cond (Nat.beq pc 9) (some (.iload_n 1, 1, 0, 0, .null, [])) none) (cond (Nat.beq pc 8) (some (.aload_n 0, 1, 0, 0, .null, [])) none)) (cond (Nat.ble 7 pc) (cond (Nat.beq pc 7) (some (.iaload, 1, 0, 0, .null, [])) none) (cond (Nat.beq pc 6) (some (.dup2, 1, 0, 0, .null, [])) none))) (cond (Nat.ble 1 pc) (cond (Nat.ble 4 pc) (cond (Nat.beq pc 4) (some (.bipush 6, 2, 0, 0, .int 6, [])) none) (cond (Nat.beq pc 1) (some (.getfield 7, 3, 4, 0, .null, [531])) none)) (cond (Nat.beq pc 0) (some (.aload_n 0, 1, 0, 0, .null, [])) none)))
/-- BraidHornsModel.refill(I)I -/
def xI_127 : Nat → Option xEn := fun pc => cond (Nat.ble 15 pc) (cond (Nat.ble 21 pc) (cond (Nat.ble 23 pc) (cond (Nat.ble 26 pc) (cond (Nat.ble 27 pc) (cond (Nat.beq pc 27) (some (.ireturn, 1, 0, 0, .null, [])) none) (cond (Nat.beq pc 26) (some (.iload_n 2, 1, 0, 0, .null, [])) none)) (cond (Nat.beq pc 23) (some (.invokevirtual 133, 3, 126, 1, .null, [713, 715, 31, 52])) none)) (cond (Nat.ble 22 pc) (cond (Nat.beq pc 22) (some (.iload_n 1, 1, 0, 0, .null, [])) none) (cond (Nat.beq pc 21) (some (.aload_n 0, 1, 0, 0, .null, [])) none))) (cond (Nat.ble 17 pc) (cond (Nat.ble 20 pc) (cond (Nat.beq pc 20) (some (.istore_n 2, 1, 0, 0, .null, [])) none) (cond (Nat.beq pc 17) (some (.invokevirtual 40, 3, 89, 2, .null, [590, 592, 11, 52])) none)) (cond (Nat.ble 16 pc) (cond (Nat.beq pc 16) (some (.iconst 1, 1, 0, 0, .int 1, [])) none) (cond (Nat.beq pc 15) (some (.iload_n 1, 1, 0, 0, .null, [])) none)))) (cond (Nat.ble 8 pc) (cond (Nat.ble 10 pc) (cond (Nat.ble 11 pc) (cond (Nat.ble 14 pc) (cond (Nat.beq pc 14) (some (.aload_n 0, 1, 0, 0, .null, [])) none) (cond (Nat.beq pc 11) (some (.invokevirtual 60, 3, 96, 0, .null, [598, 600, 12, 52])) none)) (cond (Nat.beq pc 10) (some (.aload_n 0, 1, 0, 0, .null, [])) none)) (cond (Nat.ble 9 pc) (cond (Nat.beq pc 9) (some (.ireturn, 1, 0, 0, .null, [])) none) (cond (Nat.beq pc 8) (some (.iconst (-1), 1, 0, 0, .int (-1), [])) none))) (cond (Nat.ble 2 pc) (cond (Nat.ble 5 pc) (cond (Nat.beq pc 5) (some (.ifCond .ne 5, 3, 10, 0, .null, [])) none) (cond (Nat.beq pc 2) (some (.invokevirtual 44, 3, 90, 1, .null, [586, 588, 10, 52])) none)) (cond (Nat.ble 1 pc) (cond (Nat.beq pc 1) (some (.iload_n 1, 1, 0, 0, .null, [])) none) (cond (Nat.beq pc 0) (some (.aload_n 0, 1, 0, 0, .null, [])) none))))
/-- BraidHornsModel.of(II)I -/
def xI_128 : Nat → Option xEn := fun pc => cond (Nat.ble 77 pc) (cond (Nat.ble 94 pc) (cond (Nat.ble 104 pc) (cond (Nat.ble 111 pc) (cond (Nat.ble 113 pc) (cond (Nat.ble 115 pc) (cond (Nat.beq pc 115) (some (.ireturn, 1, 0, 0, .null, [])) none) (cond (Nat.beq pc 113) (some (.bipush (-2), 2, 0, 0, .int (-2), [])) none)) (cond (Nat.ble 112 pc) (cond (Nat.beq pc 112) (some (.ireturn, 1, 0, 0, .null, [])) none) (cond (Nat.beq pc 111) (some (.iconst 0, 1, 0, 0, .int 0, [])) none))) (cond (Nat.ble 107 pc) (cond (Nat.ble 108 pc) (cond (Nat.beq pc 108) (some (.goto 4, 3, 112, 0, .null, [])) none) (cond (Nat.beq pc 107) (some (.iconst 1, 1, 0, 0, .int 1, [])) none)) (cond (Nat.beq pc 104) (some (.if_icmp .ne 7, 3, 111, 0, .null, [])) none))) (cond (Nat.ble 99 pc) (cond (Nat.ble 100 pc) (cond (Nat.ble 103 pc) (cond (Nat.beq pc 103) (some (.iconst 1, 1, 0, 0, .int 1, [])) none) (cond (Nat.beq pc 100) (some (.goto 4, 3, 104, 0, .null, [])) none)) (cond (Nat.beq pc 99) (some (.iconst 3, 1, 0, 0, .int 3, [])) none)) (cond (Nat.ble 95 pc) (cond (Nat.ble 96 pc) (cond (Nat.beq pc 96) (some (.ifCond .ne 7, 3, 103, 0, .null, [])) none) (cond (Nat.beq pc 95) (some (.irem, 1, 0, 0, .null, [])) none)) (cond (Nat.beq pc 94) (some (.iconst 2, 1, 0, 0, .int 2, [])) none)))) (cond (Nat.ble 85 pc) (cond (Nat.ble 90 pc) (cond (Nat.ble 92 pc) (cond (Nat.ble 93 pc) (cond (Nat.beq pc 93) (some (.idiv, 1, 0, 0, .null, [])) none) (cond (Nat.beq pc 92) (some (.iconst 4, 1, 0, 0, .int 4, [])) none)) (cond (Nat.ble 91 pc) (cond (Nat.beq pc 91) (some (.iload_n 3, 1, 0, 0, .null, [])) none) (cond (Nat.beq pc 90) (some (.irem, 1, 0, 0, .null, [])) none))) (cond (Nat.ble 88 pc) (cond (Nat.ble 89 pc) (cond (Nat.beq pc 89) (some (.iconst 4, 1, 0, 0, .int 4, [])) none) (cond (Nat.beq pc 88) (some (.iload_n 3, 1, 0, 0, .null, [])) none)) (cond (Nat.beq pc 85) (some (.if_icmp .eq 22, 3, 107, 0, .null, [])) none))) (cond (Nat.ble 82 pc) (cond (Nat.ble 83 pc) (cond (Nat.ble 84 pc) (cond (Nat.beq pc 84) (some (.iconst 2, 1, 0, 0, .int 2, [])) none) (cond (Nat.beq pc 83) (some (.irem, 1, 0, 0, .null, [])) none)) (cond (Nat.beq pc 82) (some (.iconst 4, 1, 0, 0, .int 4, [])) none)) (cond (Nat.ble 80 pc) (cond (Nat.ble 81 pc) (cond (Nat.beq pc 81) (some (.iload_n 3, 1, 0, 0, .null, [])) none) (cond (Nat.beq pc 80) (some (.ireturn, 1, 0, 0, .null, [])) none)) (cond (Nat.beq pc 77) (some (.invokevirtual 40, 3, 89, 2, .null, [590, 592, 11, 52])) none))))) (cond (Nat.ble 64 pc) (cond (Nat.ble 70 pc) (cond (Nat.ble 73 pc) (cond (Nat.ble 75 pc) (cond (Nat.ble 76 pc) (cond (Nat.beq pc 76) (some (.isub, 1, 0, 0, .null, [])) none) (cond (Nat.beq pc 75) (some (.iconst 1, 1, 0, 0, .int 1, [])) none)) (cond (Nat.ble 74 pc) (cond (Nat.beq pc 74) (some (.iload_n 2, 1, 0, 0, .null, [])) none) (cond (Nat.beq pc 73) (some (.iload_n 1, 1, 0, 0, .null, [])) none))) (cond (Nat.ble 71 pc) (cond (Nat.ble 72 pc) (cond (Nat.beq pc 72) (some (.aload_n 0, 1, 0, 0, .null, [])) none) (cond (Nat.beq pc 71) (some (.ireturn, 1, 0, 0, .null, [])) none)) (cond (Nat.beq pc 70) (some (.irem, 1, 0, 0, .null, [])) none))) (cond (Nat.ble 67 pc) (cond (Nat.ble 68 pc) (cond (Nat.ble 69 pc) (cond (Nat.beq pc 69) (some (.iconst 4, 1, 0, 0, .int 4, [])) none) (cond (Nat.beq pc 68) (some (.iload_n 3, 1, 0, 0, .null, [])) none)) (cond (Nat.beq pc 67) (some (.ireturn, 1, 0, 0, .null, [])) none)) (cond (Nat.ble 65 pc) (cond (Nat.ble 66 pc) (cond (Nat.beq pc 66) (some (.idiv, 1, 0, 0, .null, [])) none) (cond (Nat.beq pc 65) (some (.iconst 4, 1, 0, 0, .int 4, [])) none)) (cond (Nat.beq pc 64) (some (.iload_n 3, 1, 0, 0, .null, [])) none)))) (cond (Nat.ble 10 pc) (cond (Nat.ble 13 pc) (cond (Nat.ble 17 pc) (cond (Nat.ble 18 pc) (cond (Nat.beq pc 18) (some (.tableswitch 95 0 7 #[46, 50, 54, 54, 54, 54, 54, 63], 46, 0, 0, .null, [])) none) (cond (Nat.beq pc 17) (some (.iload_n 2, 1, 0, 0, .null, [])) none)) (cond (Nat.ble 16 pc) (cond (Nat.beq pc 16) (some (.istore_n 3, 1, 0, 0, .null, [])) none) (cond (Nat.beq pc 13) (some (.invokevirtual 40, 3, 89, 2, .null, [590, 592, 11, 52])) none))) (cond (Nat.ble 11 pc) (cond (Nat.ble 12 pc) (cond (Nat.beq pc 12) (some (.iconst 0, 1, 0, 0, .int 0, [])) none) (cond (Nat.beq pc 11) (some (.iload_n 1, 1, 0, 0, .null, [])) none)) (cond (Nat.beq pc 10) (some (.aload_n 0, 1, 0, 0, .null, [])) none))) (cond (Nat.ble 5 pc) (cond (Nat.ble 8 pc) (cond (Nat.ble 9 pc) (cond (Nat.beq pc 9) (some (.ireturn, 1, 0, 0, .null, [])) none) (cond (Nat.beq pc 8) (some (.iconst (-1), 1, 0, 0, .int (-1), [])) none)) (cond (Nat.beq pc 5) (some (.ifCond .ne 5, 3, 10, 0, .null, [])) none)) (cond (Nat.ble 1 pc) (cond (Nat.ble 2 pc) (cond (Nat.beq pc 2) (some (.invokevirtual 44, 3, 90, 1, .null, [586, 588, 10, 52])) none) (cond (Nat.beq pc 1) (some (.iload_n 1, 1, 0, 0, .null, [])) none)) (cond (Nat.beq pc 0) (some (.aload_n 0, 1, 0, 0, .null, [])) none)))))
/-- BraidHornsModel.at(II)I -/
def xI_129 : Nat → Option xEn := fun pc => cond (Nat.ble 11 pc) (cond (Nat.ble 15 pc) (cond (Nat.ble 21 pc) (cond (Nat.ble 22 pc) (cond (Nat.beq pc 22) (some (.ireturn, 1, 0, 0, .null, [])) none) (cond (Nat.beq pc 21) (some (.iconst (-1), 1, 0, 0, .int (-1), [])) none)) (cond (Nat.ble 18 pc) (cond (Nat.beq pc 18) (some (.goto 4, 3, 22, 0, .null, [])) none) (cond (Nat.beq pc 15) (some (.invokevirtual 80, 3, 94, 1, .null, [629, 631, 17, 52])) none))) (cond (Nat.ble 13 pc) (cond (Nat.ble 14 pc) (cond (Nat.beq pc 14) (some (.iadd, 1, 0, 0, .null, [])) none) (cond (Nat.beq pc 13) (some (.iload_n 2, 1, 0, 0, .null, [])) none)) (cond (Nat.ble 12 pc) (cond (Nat.beq pc 12) (some (.imul, 1, 0, 0, .null, [])) none) (cond (Nat.beq pc 11) (some (.iload_n 1, 1, 0, 0, .null, [])) none)))) (cond (Nat.ble 3 pc) (cond (Nat.ble 9 pc) (cond (Nat.ble 10 pc) (cond (Nat.beq pc 10) (some (.iconst 4, 1, 0, 0, .int 4, [])) none) (cond (Nat.beq pc 9) (some (.aload_n 0, 1, 0, 0, .null, [])) none)) (cond (Nat.ble 6 pc) (cond (Nat.beq pc 6) (some (.ifCond .eq 15, 3, 21, 0, .null, [])) none) (cond (Nat.beq pc 3) (some (.invokevirtual 83, 3, 108, 2, .null, [617, 619, 14, 52])) none))) (cond (Nat.ble 1 pc) (cond (Nat.ble 2 pc) (cond (Nat.beq pc 2) (some (.iload_n 2, 1, 0, 0, .null, [])) none) (cond (Nat.beq pc 1) (some (.iload_n 1, 1, 0, 0, .null, [])) none)) (cond (Nat.beq pc 0) (some (.aload_n 0, 1, 0, 0, .null, [])) none)))
/-- BraidHornsModel.around(I)I -/
def xI_130 : Nat → Option xEn := fun pc => cond (Nat.ble 33 pc) (cond (Nat.ble 50 pc) (cond (Nat.ble 59 pc) (cond (Nat.ble 63 pc) (cond (Nat.ble 66 pc) (cond (Nat.ble 67 pc) (cond (Nat.beq pc 67) (some (.ireturn, 1, 0, 0, .null, [])) none) (cond (Nat.beq pc 66) (some (.iload_n 2, 1, 0, 0, .null, [])) none)) (cond (Nat.beq pc 63) (some (.goto (-56), 3, 7, 0, .null, [])) none)) (cond (Nat.ble 60 pc) (cond (Nat.beq pc 60) (some (.iinc 4 1, 3, 0, 0, .int (1), [])) none) (cond (Nat.beq pc 59) (some (.istore_n 3, 1, 0, 0, .null, [])) none))) (cond (Nat.ble 54 pc) (cond (Nat.ble 57 pc) (cond (Nat.ble 58 pc) (cond (Nat.beq pc 58) (some (.iadd, 1, 0, 0, .null, [])) none) (cond (Nat.beq pc 57) (some (.iconst 1, 1, 0, 0, .int 1, [])) none)) (cond (Nat.beq pc 54) (some (.goto 4, 3, 58, 0, .null, [])) none)) (cond (Nat.ble 53 pc) (cond (Nat.beq pc 53) (some (.iconst 0, 1, 0, 0, .int 0, [])) none) (cond (Nat.beq pc 50) (some (.if_icmp .ne 7, 3, 57, 0, .null, [])) none)))) (cond (Nat.ble 43 pc) (cond (Nat.ble 45 pc) (cond (Nat.ble 46 pc) (cond (Nat.ble 48 pc) (cond (Nat.beq pc 48) (some (.bipush (-6), 2, 0, 0, .int (-6), [])) none) (cond (Nat.beq pc 46) (some (.iload 5, 2, 0, 0, .null, [])) none)) (cond (Nat.beq pc 45) (some (.iload_n 3, 1, 0, 0, .null, [])) none)) (cond (Nat.ble 44 pc) (cond (Nat.beq pc 44) (some (.istore_n 2, 1, 0, 0, .null, [])) none) (cond (Nat.beq pc 43) (some (.iload_n 2, 1, 0, 0, .null, [])) none))) (cond (Nat.ble 35 pc) (cond (Nat.ble 38 pc) (cond (Nat.ble 40 pc) (cond (Nat.beq pc 40) (some (.goto 4, 3, 44, 0, .null, [])) none) (cond (Nat.beq pc 38) (some (.iload 5, 2, 0, 0, .null, [])) none)) (cond (Nat.beq pc 35) (some (.if_icmp .ne 8, 3, 43, 0, .null, [])) none)) (cond (Nat.ble 34 pc) (cond (Nat.beq pc 34) (some (.iload_n 1, 1, 0, 0, .null, [])) none) (cond (Nat.beq pc 33) (some (.iload_n 3, 1, 0, 0, .null, [])) none))))) (cond (Nat.ble 11 pc) (cond (Nat.ble 21 pc) (cond (Nat.ble 26 pc) (cond (Nat.ble 28 pc) (cond (Nat.ble 30 pc) (cond (Nat.beq pc 30) (some (.if_icmp .eq 13, 3, 43, 0, .null, [])) none) (cond (Nat.beq pc 28) (some (.bipush (-6), 2, 0, 0, .int (-6), [])) none)) (cond (Nat.beq pc 26) (some (.iload 5, 2, 0, 0, .null, [])) none)) (cond (Nat.ble 24 pc) (cond (Nat.beq pc 24) (some (.istore 5, 2, 0, 0, .null, [])) none) (cond (Nat.beq pc 21) (some (.invokevirtual 80, 3, 94, 1, .null, [629, 631, 17, 52])) none))) (cond (Nat.ble 15 pc) (cond (Nat.ble 18 pc) (cond (Nat.ble 19 pc) (cond (Nat.beq pc 19) (some (.iload 4, 2, 0, 0, .null, [])) none) (cond (Nat.beq pc 18) (some (.aload_n 0, 1, 0, 0, .null, [])) none)) (cond (Nat.beq pc 15) (some (.if_icmp .ge 51, 3, 66, 0, .null, [])) none)) (cond (Nat.ble 14 pc) (cond (Nat.beq pc 14) (some (.imul, 1, 0, 0, .null, [])) none) (cond (Nat.beq pc 11) (some (.invokevirtual 63, 3, 91, 0, .null, [621, 623, 15, 52])) none)))) (cond (Nat.ble 4 pc) (cond (Nat.ble 7 pc) (cond (Nat.ble 9 pc) (cond (Nat.ble 10 pc) (cond (Nat.beq pc 10) (some (.aload_n 0, 1, 0, 0, .null, [])) none) (cond (Nat.beq pc 9) (some (.iconst 4, 1, 0, 0, .int 4, [])) none)) (cond (Nat.beq pc 7) (some (.iload 4, 2, 0, 0, .null, [])) none)) (cond (Nat.ble 5 pc) (cond (Nat.beq pc 5) (some (.istore 4, 2, 0, 0, .null, [])) none) (cond (Nat.beq pc 4) (some (.iconst 0, 1, 0, 0, .int 0, [])) none))) (cond (Nat.ble 2 pc) (cond (Nat.ble 3 pc) (cond (Nat.beq pc 3) (some (.istore_n 3, 1, 0, 0, .null, [])) none) (cond (Nat.beq pc 2) (some (.iconst 0, 1, 0, 0, .int 0, [])) none)) (cond (Nat.ble 1 pc) (cond (Nat.beq pc 1) (some (.istore_n 2, 1, 0, 0, .null, [])) none) (cond (Nat.beq pc 0) (some (.iconst (-1), 1, 0, 0, .int (-1), [])) none)))))
/-- BraidHornsModel.set()I -/
def xI_131 : Nat → Option xEn := fun pc => cond (Nat.ble 16 pc) (cond (Nat.ble 26 pc) (cond (Nat.ble 31 pc) (cond (Nat.ble 34 pc) (cond (Nat.ble 35 pc) (cond (Nat.beq pc 35) (some (.ireturn, 1, 0, 0, .null, [])) none) (cond (Nat.beq pc 34) (some (.iload_n 1, 1, 0, 0, .null, [])) none)) (cond (Nat.beq pc 31) (some (.goto (-27), 3, 4, 0, .null, [])) none)) (cond (Nat.ble 27 pc) (cond (Nat.ble 28 pc) (cond (Nat.beq pc 28) (some (.iinc 2 1, 3, 0, 0, .int (1), [])) none) (cond (Nat.beq pc 27) (some (.istore_n 1, 1, 0, 0, .null, [])) none)) (cond (Nat.beq pc 26) (some (.ior, 1, 0, 0, .null, [])) none))) (cond (Nat.ble 21 pc) (cond (Nat.ble 22 pc) (cond (Nat.ble 25 pc) (cond (Nat.beq pc 25) (some (.iconst 0, 1, 0, 0, .int 0, [])) none) (cond (Nat.beq pc 22) (some (.goto 4, 3, 26, 0, .null, [])) none)) (cond (Nat.beq pc 21) (some (.ishl, 1, 0, 0, .null, [])) none)) (cond (Nat.ble 19 pc) (cond (Nat.ble 20 pc) (cond (Nat.beq pc 20) (some (.iload_n 2, 1, 0, 0, .null, [])) none) (cond (Nat.beq pc 19) (some (.iconst 1, 1, 0, 0, .int 1, [])) none)) (cond (Nat.beq pc 16) (some (.ifCond .eq 9, 3, 25, 0, .null, [])) none)))) (cond (Nat.ble 5 pc) (cond (Nat.ble 11 pc) (cond (Nat.ble 12 pc) (cond (Nat.ble 13 pc) (cond (Nat.beq pc 13) (some (.invokevirtual 44, 3, 90, 1, .null, [586, 588, 10, 52])) none) (cond (Nat.beq pc 12) (some (.iload_n 2, 1, 0, 0, .null, [])) none)) (cond (Nat.beq pc 11) (some (.aload_n 0, 1, 0, 0, .null, [])) none)) (cond (Nat.ble 7 pc) (cond (Nat.ble 10 pc) (cond (Nat.beq pc 10) (some (.iload_n 1, 1, 0, 0, .null, [])) none) (cond (Nat.beq pc 7) (some (.if_icmp .ge 27, 3, 34, 0, .null, [])) none)) (cond (Nat.beq pc 5) (some (.bipush 10, 2, 0, 0, .int 10, [])) none))) (cond (Nat.ble 2 pc) (cond (Nat.ble 3 pc) (cond (Nat.ble 4 pc) (cond (Nat.beq pc 4) (some (.iload_n 2, 1, 0, 0, .null, [])) none) (cond (Nat.beq pc 3) (some (.istore_n 2, 1, 0, 0, .null, [])) none)) (cond (Nat.beq pc 2) (some (.iconst 0, 1, 0, 0, .int 0, [])) none)) (cond (Nat.ble 1 pc) (cond (Nat.beq pc 1) (some (.istore_n 1, 1, 0, 0, .null, [])) none) (cond (Nat.beq pc 0) (some (.iconst 0, 1, 0, 0, .int 0, [])) none))))
/-- BraidHornsModel.count(I)I -/
def xI_132 : Nat → Option xEn := fun pc => cond (Nat.ble 121 pc) (cond (Nat.ble 144 pc) (cond (Nat.ble 155 pc) (cond (Nat.ble 161 pc) (cond (Nat.ble 165 pc) (cond (Nat.ble 167 pc) (cond (Nat.beq pc 167) (some (.ireturn, 1, 0, 0, .null, [])) none) (cond (Nat.beq pc 165) (some (.bipush (-2), 2, 0, 0, .int (-2), [])) none)) (cond (Nat.ble 164 pc) (cond (Nat.beq pc 164) (some (.ireturn, 1, 0, 0, .null, [])) none) (cond (Nat.beq pc 161) (some (.getfield 48, 3, 4, 2, .null, [533])) none))) (cond (Nat.ble 159 pc) (cond (Nat.ble 160 pc) (cond (Nat.beq pc 160) (some (.aload_n 0, 1, 0, 0, .null, [])) none) (cond (Nat.beq pc 159) (some (.ireturn, 1, 0, 0, .null, [])) none)) (cond (Nat.ble 156 pc) (cond (Nat.beq pc 156) (some (.getfield 139, 3, 4, 6, .null, [537])) none) (cond (Nat.beq pc 155) (some (.aload_n 0, 1, 0, 0, .null, [])) none)))) (cond (Nat.ble 150 pc) (cond (Nat.ble 153 pc) (cond (Nat.ble 154 pc) (cond (Nat.beq pc 154) (some (.ireturn, 1, 0, 0, .null, [])) none) (cond (Nat.beq pc 153) (some (.iaload, 1, 0, 0, .null, [])) none)) (cond (Nat.ble 152 pc) (cond (Nat.beq pc 152) (some (.isub, 1, 0, 0, .null, [])) none) (cond (Nat.beq pc 150) (some (.bipush 10, 2, 0, 0, .int 10, [])) none))) (cond (Nat.ble 146 pc) (cond (Nat.ble 149 pc) (cond (Nat.beq pc 149) (some (.iload_n 1, 1, 0, 0, .null, [])) none) (cond (Nat.beq pc 146) (some (.getfield 7, 3, 4, 0, .null, [531])) none)) (cond (Nat.ble 145 pc) (cond (Nat.beq pc 145) (some (.aload_n 0, 1, 0, 0, .null, [])) none) (cond (Nat.beq pc 144) (some (.ireturn, 1, 0, 0, .null, [])) none))))) (cond (Nat.ble 130 pc) (cond (Nat.ble 137 pc) (cond (Nat.ble 141 pc) (cond (Nat.ble 143 pc) (cond (Nat.beq pc 143) (some (.iaload, 1, 0, 0, .null, [])) none) (cond (Nat.beq pc 141) (some (.bipush 9, 2, 0, 0, .int 9, [])) none)) (cond (Nat.ble 138 pc) (cond (Nat.beq pc 138) (some (.getfield 7, 3, 4, 0, .null, [531])) none) (cond (Nat.beq pc 137) (some (.aload_n 0, 1, 0, 0, .null, [])) none))) (cond (Nat.ble 135 pc) (cond (Nat.ble 136 pc) (cond (Nat.beq pc 136) (some (.ireturn, 1, 0, 0, .null, [])) none) (cond (Nat.beq pc 135) (some (.iaload, 1, 0, 0, .null, [])) none)) (cond (Nat.ble 133 pc) (cond (Nat.beq pc 133) (some (.bipush 8, 2, 0, 0, .int 8, [])) none) (cond (Nat.beq pc 130) (some (.getfield 7, 3, 4, 0, .null, [531])) none)))) (cond (Nat.ble 124 pc) (cond (Nat.ble 128 pc) (cond (Nat.ble 129 pc) (cond (Nat.beq pc 129) (some (.aload_n 0, 1, 0, 0, .null, [])) none) (cond (Nat.beq pc 128) (some (.ireturn, 1, 0, 0, .null, [])) none)) (cond (Nat.ble 125 pc) (cond (Nat.beq pc 125) (some (.invokevirtual 105, 3, 93, 1, .null, [661, 663, 23, 52])) none) (cond (Nat.beq pc 124) (some (.iconst 1, 1, 0, 0, .int 1, [])) none))) (cond (Nat.ble 122 pc) (cond (Nat.ble 123 pc) (cond (Nat.beq pc 123) (some (.aload_n 0, 1, 0, 0, .null, [])) none) (cond (Nat.beq pc 122) (some (.ireturn, 1, 0, 0, .null, [])) none)) (cond (Nat.beq pc 121) (some (.iaload, 1, 0, 0, .null, [])) none))))) (cond (Nat.ble 97 pc) (cond (Nat.ble 107 pc) (cond (Nat.ble 114 pc) (cond (Nat.ble 116 pc) (cond (Nat.ble 119 pc) (cond (Nat.beq pc 119) (some (.bipush 7, 2, 0, 0, .int 7, [])) none) (cond (Nat.beq pc 116) (some (.getfield 7, 3, 4, 0, .null, [531])) none)) (cond (Nat.ble 115 pc) (cond (Nat.beq pc 115) (some (.aload_n 0, 1, 0, 0, .null, [])) none) (cond (Nat.beq pc 114) (some (.ireturn, 1, 0, 0, .null, [])) none))) (cond (Nat.ble 111 pc) (cond (Nat.ble 113 pc) (cond (Nat.beq pc 113) (some (.iaload, 1, 0, 0, .null, [])) none) (cond (Nat.beq pc 111) (some (.bipush 6, 2, 0, 0, .int 6, [])) none)) (cond (Nat.ble 108 pc) (cond (Nat.beq pc 108) (some (.getfield 7, 3, 4, 0, .null, [531])) none) (cond (Nat.beq pc 107) (some (.aload_n 0, 1, 0, 0, .null, [])) none)))) (cond (Nat.ble 101 pc) (cond (Nat.ble 105 pc) (cond (Nat.ble 106 pc) (cond (Nat.beq pc 106) (some (.ireturn, 1, 0, 0, .null, [])) none) (cond (Nat.beq pc 105) (some (.iaload, 1, 0, 0, .null, [])) none)) (cond (Nat.ble 104 pc) (cond (Nat.beq pc 104) (some (.iconst 5, 1, 0, 0, .int 5, [])) none) (cond (Nat.beq pc 101) (some (.getfield 7, 3, 4, 0, .null, [531])) none))) (cond (Nat.ble 99 pc) (cond (Nat.ble 100 pc) (cond (Nat.beq pc 100) (some (.aload_n 0, 1, 0, 0, .null, [])) none) (cond (Nat.beq pc 99) (some (.ireturn, 1, 0, 0, .null, [])) none)) (cond (Nat.ble 98 pc) (cond (Nat.beq pc 98) (some (.iaload, 1, 0, 0, .null, [])) none) (cond (Nat.beq pc 97) (some (.iconst 4, 1, 0, 0, .int 4, [])) none))))) (cond (Nat.ble 85 pc) (cond (Nat.ble 91 pc) (cond (Nat.ble 93 pc) (cond (Nat.ble 94 pc) (cond (Nat.beq pc 94) (some (.getfield 7, 3, 4, 0, .null, [531])) none) (cond (Nat.beq pc 93) (some (.aload_n 0, 1, 0, 0, .null, [])) none)) (cond (Nat.ble 92 pc) (cond (Nat.beq pc 92) (some (.ireturn, 1, 0, 0, .null, [])) none) (cond (Nat.beq pc 91) (some (.iaload, 1, 0, 0, .null, [])) none))) (cond (Nat.ble 87 pc) (cond (Nat.ble 90 pc) (cond (Nat.beq pc 90) (some (.iconst 3, 1, 0, 0, .int 3, [])) none) (cond (Nat.beq pc 87) (some (.getfield 7, 3, 4, 0, .null, [531])) none)) (cond (Nat.ble 86 pc) (cond (Nat.beq pc 86) (some (.aload_n 0, 1, 0, 0, .null, [])) none) (cond (Nat.beq pc 85) (some (.ireturn, 1, 0, 0, .null, [])) none)))) (cond (Nat.ble 77 pc) (cond (Nat.ble 81 pc) (cond (Nat.ble 82 pc) (cond (Nat.beq pc 82) (some (.invokevirtual 136, 3, 131, 0, .null, [733, 735, 32, 52])) none) (cond (Nat.beq pc 81) (some (.aload_n 0, 1, 0, 0, .null, [])) none)) (cond (Nat.ble 80 pc) (cond (Nat.beq pc 80) (some (.ireturn, 1, 0, 0, .null, [])) none) (cond (Nat.beq pc 77) (some (.invokevirtual 63, 3, 91, 0, .null, [621, 623, 15, 52])) none))) (cond (Nat.ble 1 pc) (cond (Nat.ble 76 pc) (cond (Nat.beq pc 76) (some (.aload_n 0, 1, 0, 0, .null, [])) none) (cond (Nat.beq pc 1) (some (.tableswitch 164 0 14 #[75, 80, 85, 92, 99, 106, 114, 122, 128, 136, 144, 144, 144, 154, 159], 75, 0, 0, .null, [])) none)) (cond (Nat.beq pc 0) (some (.iload_n 1, 1, 0, 0, .null, [])) none)))))
/-- BraidHornsModel.meetsIn()I -/
def xI_133 : Nat → Option xEn := fun pc => cond (Nat.ble 18 pc) (cond (Nat.ble 30 pc) (cond (Nat.ble 34 pc) (cond (Nat.ble 37 pc) (cond (Nat.ble 39 pc) (cond (Nat.beq pc 39) (some (.ireturn, 1, 0, 0, .null, [])) none) (cond (Nat.beq pc 37) (some (.bipush (-6), 2, 0, 0, .int (-6), [])) none)) (cond (Nat.beq pc 34) (some (.goto 5, 3, 39, 0, .null, [])) none)) (cond (Nat.ble 33 pc) (cond (Nat.beq pc 33) (some (.iload_n 1, 1, 0, 0, .null, [])) none) (cond (Nat.beq pc 30) (some (.if_icmp .gt 7, 3, 37, 0, .null, [])) none))) (cond (Nat.ble 24 pc) (cond (Nat.ble 27 pc) (cond (Nat.ble 28 pc) (cond (Nat.beq pc 28) (some (.bipush 100, 2, 0, 0, .int 100, [])) none) (cond (Nat.beq pc 27) (some (.iload_n 1, 1, 0, 0, .null, [])) none)) (cond (Nat.beq pc 24) (some (.goto (-22), 3, 2, 0, .null, [])) none)) (cond (Nat.ble 21 pc) (cond (Nat.beq pc 21) (some (.iinc 1 1, 3, 0, 0, .int (1), [])) none) (cond (Nat.beq pc 18) (some (.invokevirtual 142, 3, 105, 0, .null, [745, 747, 34, 52])) none)))) (cond (Nat.ble 8 pc) (cond (Nat.ble 12 pc) (cond (Nat.ble 14 pc) (cond (Nat.ble 17 pc) (cond (Nat.beq pc 17) (some (.aload_n 0, 1, 0, 0, .null, [])) none) (cond (Nat.beq pc 14) (some (.if_icmp .ne 13, 3, 27, 0, .null, [])) none)) (cond (Nat.beq pc 12) (some (.bipush (-6), 2, 0, 0, .int (-6), [])) none)) (cond (Nat.ble 9 pc) (cond (Nat.beq pc 9) (some (.invokevirtual 112, 3, 104, 0, .null, [669, 671, 25, 52])) none) (cond (Nat.beq pc 8) (some (.aload_n 0, 1, 0, 0, .null, [])) none))) (cond (Nat.ble 2 pc) (cond (Nat.ble 3 pc) (cond (Nat.ble 5 pc) (cond (Nat.beq pc 5) (some (.if_icmp .gt 22, 3, 27, 0, .null, [])) none) (cond (Nat.beq pc 3) (some (.bipush 100, 2, 0, 0, .int 100, [])) none)) (cond (Nat.beq pc 2) (some (.iload_n 1, 1, 0, 0, .null, [])) none)) (cond (Nat.ble 1 pc) (cond (Nat.beq pc 1) (some (.istore_n 1, 1, 0, 0, .null, [])) none) (cond (Nat.beq pc 0) (some (.iconst 1, 1, 0, 0, .int 1, [])) none))))
/-- BraidHornsModel.carrierTurnedTo(I)I -/
def xI_134 : Nat → Option xEn := fun pc => cond (Nat.ble 25 pc) (cond (Nat.ble 39 pc) (cond (Nat.ble 47 pc) (cond (Nat.ble 53 pc) (cond (Nat.ble 54 pc) (cond (Nat.beq pc 54) (some (.ireturn, 1, 0, 0, .null, [])) none) (cond (Nat.beq pc 53) (some (.iload_n 2, 1, 0, 0, .null, [])) none)) (cond (Nat.ble 50 pc) (cond (Nat.beq pc 50) (some (.goto (-42), 3, 8, 0, .null, [])) none) (cond (Nat.beq pc 47) (some (.iinc 4 1, 3, 0, 0, .int (1), [])) none))) (cond (Nat.ble 43 pc) (cond (Nat.ble 44 pc) (cond (Nat.beq pc 44) (some (.iinc 3 1, 3, 0, 0, .int (1), [])) none) (cond (Nat.beq pc 43) (some (.istore_n 2, 1, 0, 0, .null, [])) none)) (cond (Nat.ble 42 pc) (cond (Nat.beq pc 42) (some (.iload_n 2, 1, 0, 0, .null, [])) none) (cond (Nat.beq pc 39) (some (.goto 4, 3, 43, 0, .null, [])) none)))) (cond (Nat.ble 30 pc) (cond (Nat.ble 34 pc) (cond (Nat.ble 37 pc) (cond (Nat.beq pc 37) (some (.iload 4, 2, 0, 0, .null, [])) none) (cond (Nat.beq pc 34) (some (.if_icmp .ne 8, 3, 42, 0, .null, [])) none)) (cond (Nat.ble 33 pc) (cond (Nat.beq pc 33) (some (.iload_n 1, 1, 0, 0, .null, [])) none) (cond (Nat.beq pc 30) (some (.invokestatic 69, 3, 101, 1, .null, [673, 674, 52])) none))) (cond (Nat.ble 28 pc) (cond (Nat.ble 29 pc) (cond (Nat.beq pc 29) (some (.iaload, 1, 0, 0, .null, [])) none) (cond (Nat.beq pc 28) (some (.iload_n 3, 1, 0, 0, .null, [])) none)) (cond (Nat.beq pc 25) (some (.getfield 26, 3, 4, 7, .null, [538])) none)))) (cond (Nat.ble 10 pc) (cond (Nat.ble 16 pc) (cond (Nat.ble 21 pc) (cond (Nat.ble 24 pc) (cond (Nat.beq pc 24) (some (.aload_n 0, 1, 0, 0, .null, [])) none) (cond (Nat.beq pc 21) (some (.ifCond .eq 26, 3, 47, 0, .null, [])) none)) (cond (Nat.ble 18 pc) (cond (Nat.beq pc 18) (some (.invokevirtual 44, 3, 90, 1, .null, [586, 588, 10, 52])) none) (cond (Nat.beq pc 16) (some (.iload 4, 2, 0, 0, .null, [])) none))) (cond (Nat.ble 12 pc) (cond (Nat.ble 15 pc) (cond (Nat.beq pc 15) (some (.aload_n 0, 1, 0, 0, .null, [])) none) (cond (Nat.beq pc 12) (some (.if_icmp .ge 41, 3, 53, 0, .null, [])) none)) (cond (Nat.beq pc 10) (some (.bipush 10, 2, 0, 0, .int 10, [])) none))) (cond (Nat.ble 4 pc) (cond (Nat.ble 6 pc) (cond (Nat.ble 8 pc) (cond (Nat.beq pc 8) (some (.iload 4, 2, 0, 0, .null, [])) none) (cond (Nat.beq pc 6) (some (.istore 4, 2, 0, 0, .null, [])) none)) (cond (Nat.ble 5 pc) (cond (Nat.beq pc 5) (some (.iconst 0, 1, 0, 0, .int 0, [])) none) (cond (Nat.beq pc 4) (some (.istore_n 3, 1, 0, 0, .null, [])) none))) (cond (Nat.ble 2 pc) (cond (Nat.ble 3 pc) (cond (Nat.beq pc 3) (some (.iconst 0, 1, 0, 0, .int 0, [])) none) (cond (Nat.beq pc 2) (some (.istore_n 2, 1, 0, 0, .null, [])) none)) (cond (Nat.beq pc 0) (some (.bipush (-6), 2, 0, 0, .int (-6), [])) none))))
/-- BraidHornsModel.meeting(I)I -/
def xI_135 : Nat → Option xEn := fun pc => cond (Nat.ble 37 pc) (cond (Nat.ble 53 pc) (cond (Nat.ble 60 pc) (cond (Nat.ble 63 pc) (cond (Nat.ble 66 pc) (cond (Nat.ble 69 pc) (cond (Nat.beq pc 69) (some (.ireturn, 1, 0, 0, .null, [])) none) (cond (Nat.beq pc 66) (some (.invokevirtual 148, 3, 134, 1, .null, [749, 751, 35, 52])) none)) (cond (Nat.beq pc 63) (some (.invokevirtual 73, 3, 100, 1, .null, [633, 635, 18, 52])) none)) (cond (Nat.ble 61 pc) (cond (Nat.ble 62 pc) (cond (Nat.beq pc 62) (some (.imul, 1, 0, 0, .null, [])) none) (cond (Nat.beq pc 61) (some (.iload_n 3, 1, 0, 0, .null, [])) none)) (cond (Nat.beq pc 60) (some (.iconst 4, 1, 0, 0, .int 4, [])) none))) (cond (Nat.ble 55 pc) (cond (Nat.ble 56 pc) (cond (Nat.ble 59 pc) (cond (Nat.beq pc 59) (some (.aload_n 0, 1, 0, 0, .null, [])) none) (cond (Nat.beq pc 56) (some (.goto 10, 3, 66, 0, .null, [])) none)) (cond (Nat.beq pc 55) (some (.imul, 1, 0, 0, .null, [])) none)) (cond (Nat.ble 54 pc) (cond (Nat.beq pc 54) (some (.iload_n 3, 1, 0, 0, .null, [])) none) (cond (Nat.beq pc 53) (some (.iconst 4, 1, 0, 0, .int 4, [])) none)))) (cond (Nat.ble 44 pc) (cond (Nat.ble 48 pc) (cond (Nat.ble 49 pc) (cond (Nat.ble 50 pc) (cond (Nat.beq pc 50) (some (.if_icmp .ne 9, 3, 59, 0, .null, [])) none) (cond (Nat.beq pc 49) (some (.iconst 2, 1, 0, 0, .int 2, [])) none)) (cond (Nat.beq pc 48) (some (.iload_n 1, 1, 0, 0, .null, [])) none)) (cond (Nat.ble 47 pc) (cond (Nat.beq pc 47) (some (.aload_n 0, 1, 0, 0, .null, [])) none) (cond (Nat.beq pc 44) (some (.goto 25, 3, 69, 0, .null, [])) none))) (cond (Nat.ble 39 pc) (cond (Nat.ble 40 pc) (cond (Nat.ble 43 pc) (cond (Nat.beq pc 43) (some (.iload_n 3, 1, 0, 0, .null, [])) none) (cond (Nat.beq pc 40) (some (.if_icmp .ne 7, 3, 47, 0, .null, [])) none)) (cond (Nat.beq pc 39) (some (.iconst 1, 1, 0, 0, .int 1, [])) none)) (cond (Nat.ble 38 pc) (cond (Nat.beq pc 38) (some (.iload_n 1, 1, 0, 0, .null, [])) none) (cond (Nat.beq pc 37) (some (.istore_n 3, 1, 0, 0, .null, [])) none))))) (cond (Nat.ble 17 pc) (cond (Nat.ble 27 pc) (cond (Nat.ble 32 pc) (cond (Nat.ble 33 pc) (cond (Nat.ble 34 pc) (cond (Nat.beq pc 34) (some (.invokevirtual 112, 3, 104, 0, .null, [669, 671, 25, 52])) none) (cond (Nat.beq pc 33) (some (.aload_n 0, 1, 0, 0, .null, [])) none)) (cond (Nat.beq pc 32) (some (.ireturn, 1, 0, 0, .null, [])) none)) (cond (Nat.ble 28 pc) (cond (Nat.ble 31 pc) (cond (Nat.beq pc 31) (some (.iload_n 2, 1, 0, 0, .null, [])) none) (cond (Nat.beq pc 28) (some (.ifCond .ne 5, 3, 33, 0, .null, [])) none)) (cond (Nat.beq pc 27) (some (.iload_n 1, 1, 0, 0, .null, [])) none))) (cond (Nat.ble 21 pc) (cond (Nat.ble 22 pc) (cond (Nat.ble 24 pc) (cond (Nat.beq pc 24) (some (.if_icmp .eq 7, 3, 31, 0, .null, [])) none) (cond (Nat.beq pc 22) (some (.bipush (-6), 2, 0, 0, .int (-6), [])) none)) (cond (Nat.beq pc 21) (some (.iload_n 2, 1, 0, 0, .null, [])) none)) (cond (Nat.ble 20 pc) (cond (Nat.beq pc 20) (some (.istore_n 2, 1, 0, 0, .null, [])) none) (cond (Nat.beq pc 17) (some (.invokevirtual 145, 3, 133, 0, .null, [741, 743, 33, 52])) none)))) (cond (Nat.ble 9 pc) (cond (Nat.ble 12 pc) (cond (Nat.ble 13 pc) (cond (Nat.ble 16 pc) (cond (Nat.beq pc 16) (some (.aload_n 0, 1, 0, 0, .null, [])) none) (cond (Nat.beq pc 13) (some (.invokevirtual 102, 3, 102, 0, .null, [657, 659, 22, 52])) none)) (cond (Nat.beq pc 12) (some (.aload_n 0, 1, 0, 0, .null, [])) none)) (cond (Nat.ble 11 pc) (cond (Nat.beq pc 11) (some (.ireturn, 1, 0, 0, .null, [])) none) (cond (Nat.beq pc 9) (some (.bipush (-2), 2, 0, 0, .int (-2), [])) none))) (cond (Nat.ble 2 pc) (cond (Nat.ble 3 pc) (cond (Nat.ble 6 pc) (cond (Nat.beq pc 6) (some (.ifCond .ne 6, 3, 12, 0, .null, [])) none) (cond (Nat.beq pc 3) (some (.invokestatic 36, 3, 88, 3, .null, [579, 580, 52])) none)) (cond (Nat.beq pc 2) (some (.iconst 3, 1, 0, 0, .int 3, [])) none)) (cond (Nat.ble 1 pc) (cond (Nat.beq pc 1) (some (.iconst 0, 1, 0, 0, .int 0, [])) none) (cond (Nat.beq pc 0) (some (.iload_n 1, 1, 0, 0, .null, [])) none)))))
/-- BraidHornsModel.canAdd(I)Z -/
def xI_136 : Nat → Option xEn := fun pc => cond (Nat.ble 24 pc) (cond (Nat.ble 35 pc) (cond (Nat.ble 43 pc) (cond (Nat.ble 47 pc) (cond (Nat.ble 48 pc) (cond (Nat.beq pc 48) (some (.ireturn, 1, 0, 0, .null, [])) none) (cond (Nat.beq pc 47) (some (.iconst 0, 1, 0, 0, .int 0, [])) none)) (cond (Nat.ble 44 pc) (cond (Nat.beq pc 44) (some (.goto 4, 3, 48, 0, .null, [])) none) (cond (Nat.beq pc 43) (some (.iconst 1, 1, 0, 0, .int 1, [])) none))) (cond (Nat.ble 38 pc) (cond (Nat.ble 40 pc) (cond (Nat.beq pc 40) (some (.if_icmp .ne 7, 3, 47, 0, .null, [])) none) (cond (Nat.beq pc 38) (some (.bipush (-6), 2, 0, 0, .int (-6), [])) none)) (cond (Nat.beq pc 35) (some (.invokevirtual 145, 3, 133, 0, .null, [741, 743, 33, 52])) none))) (cond (Nat.ble 29 pc) (cond (Nat.ble 31 pc) (cond (Nat.ble 34 pc) (cond (Nat.beq pc 34) (some (.aload_n 0, 1, 0, 0, .null, [])) none) (cond (Nat.beq pc 31) (some (.putfield 66, 3, 4, 8, .null, [539])) none)) (cond (Nat.ble 30 pc) (cond (Nat.beq pc 30) (some (.iadd, 1, 0, 0, .null, [])) none) (cond (Nat.beq pc 29) (some (.iconst 1, 1, 0, 0, .int 1, [])) none))) (cond (Nat.ble 25 pc) (cond (Nat.ble 26 pc) (cond (Nat.beq pc 26) (some (.getfield 66, 3, 4, 8, .null, [539])) none) (cond (Nat.beq pc 25) (some (.dup, 1, 0, 0, .null, [])) none)) (cond (Nat.beq pc 24) (some (.aload_n 0, 1, 0, 0, .null, [])) none)))) (cond (Nat.ble 11 pc) (cond (Nat.ble 18 pc) (cond (Nat.ble 22 pc) (cond (Nat.ble 23 pc) (cond (Nat.beq pc 23) (some (.iastore, 1, 0, 0, .null, [])) none) (cond (Nat.beq pc 22) (some (.iload_n 1, 1, 0, 0, .null, [])) none)) (cond (Nat.ble 19 pc) (cond (Nat.beq pc 19) (some (.getfield 66, 3, 4, 8, .null, [539])) none) (cond (Nat.beq pc 18) (some (.aload_n 0, 1, 0, 0, .null, [])) none))) (cond (Nat.ble 14 pc) (cond (Nat.ble 15 pc) (cond (Nat.beq pc 15) (some (.getfield 26, 3, 4, 7, .null, [538])) none) (cond (Nat.beq pc 14) (some (.aload_n 0, 1, 0, 0, .null, [])) none)) (cond (Nat.beq pc 11) (some (.invokevirtual 102, 3, 102, 0, .null, [657, 659, 22, 52])) none))) (cond (Nat.ble 5 pc) (cond (Nat.ble 9 pc) (cond (Nat.ble 10 pc) (cond (Nat.beq pc 10) (some (.aload_n 0, 1, 0, 0, .null, [])) none) (cond (Nat.beq pc 9) (some (.ireturn, 1, 0, 0, .null, [])) none)) (cond (Nat.ble 8 pc) (cond (Nat.beq pc 8) (some (.iconst 0, 1, 0, 0, .int 0, [])) none) (cond (Nat.beq pc 5) (some (.ifCond .ne 5, 3, 10, 0, .null, [])) none))) (cond (Nat.ble 1 pc) (cond (Nat.ble 2 pc) (cond (Nat.beq pc 2) (some (.invokevirtual 86, 3, 109, 1, .null, [625, 627, 16, 52])) none) (cond (Nat.beq pc 1) (some (.iload_n 1, 1, 0, 0, .null, [])) none)) (cond (Nat.beq pc 0) (some (.aload_n 0, 1, 0, 0, .null, [])) none))))
/-- BraidHornsModel.free()I -/
def xI_137 : Nat → Option xEn := fun pc => cond (Nat.ble 16 pc) (cond (Nat.ble 28 pc) (cond (Nat.ble 33 pc) (cond (Nat.ble 36 pc) (cond (Nat.ble 37 pc) (cond (Nat.beq pc 37) (some (.ireturn, 1, 0, 0, .null, [])) none) (cond (Nat.beq pc 36) (some (.iload_n 1, 1, 0, 0, .null, [])) none)) (cond (Nat.beq pc 33) (some (.goto (-29), 3, 4, 0, .null, [])) none)) (cond (Nat.ble 29 pc) (cond (Nat.ble 30 pc) (cond (Nat.beq pc 30) (some (.iinc 2 1, 3, 0, 0, .int (1), [])) none) (cond (Nat.beq pc 29) (some (.istore_n 1, 1, 0, 0, .null, [])) none)) (cond (Nat.beq pc 28) (some (.iadd, 1, 0, 0, .null, [])) none))) (cond (Nat.ble 23 pc) (cond (Nat.ble 24 pc) (cond (Nat.ble 27 pc) (cond (Nat.beq pc 27) (some (.iconst 0, 1, 0, 0, .int 0, [])) none) (cond (Nat.beq pc 24) (some (.goto 4, 3, 28, 0, .null, [])) none)) (cond (Nat.beq pc 23) (some (.iconst 1, 1, 0, 0, .int 1, [])) none)) (cond (Nat.ble 17 pc) (cond (Nat.ble 20 pc) (cond (Nat.beq pc 20) (some (.ifCond .eq 7, 3, 27, 0, .null, [])) none) (cond (Nat.beq pc 17) (some (.invokevirtual 151, 3, 136, 1, .null, [757, 759, 36, 52])) none)) (cond (Nat.beq pc 16) (some (.iload_n 2, 1, 0, 0, .null, [])) none)))) (cond (Nat.ble 6 pc) (cond (Nat.ble 11 pc) (cond (Nat.ble 14 pc) (cond (Nat.ble 15 pc) (cond (Nat.beq pc 15) (some (.aload_n 0, 1, 0, 0, .null, [])) none) (cond (Nat.beq pc 14) (some (.iload_n 1, 1, 0, 0, .null, [])) none)) (cond (Nat.beq pc 11) (some (.if_icmp .ge 25, 3, 36, 0, .null, [])) none)) (cond (Nat.ble 7 pc) (cond (Nat.ble 10 pc) (cond (Nat.beq pc 10) (some (.imul, 1, 0, 0, .null, [])) none) (cond (Nat.beq pc 7) (some (.invokevirtual 63, 3, 91, 0, .null, [621, 623, 15, 52])) none)) (cond (Nat.beq pc 6) (some (.aload_n 0, 1, 0, 0, .null, [])) none))) (cond (Nat.ble 3 pc) (cond (Nat.ble 4 pc) (cond (Nat.ble 5 pc) (cond (Nat.beq pc 5) (some (.iconst 4, 1, 0, 0, .int 4, [])) none) (cond (Nat.beq pc 4) (some (.iload_n 2, 1, 0, 0, .null, [])) none)) (cond (Nat.beq pc 3) (some (.istore_n 2, 1, 0, 0, .null, [])) none)) (cond (Nat.ble 1 pc) (cond (Nat.ble 2 pc) (cond (Nat.beq pc 2) (some (.iconst 0, 1, 0, 0, .int 0, [])) none) (cond (Nat.beq pc 1) (some (.istore_n 1, 1, 0, 0, .null, [])) none)) (cond (Nat.beq pc 0) (some (.iconst 0, 1, 0, 0, .int 0, [])) none))))
/-- BraidHornsModel.firstFree()I -/
def xI_138 : Nat → Option xEn := fun pc => cond (Nat.ble 20 pc) (cond (Nat.ble 32 pc) (cond (Nat.ble 37 pc) (cond (Nat.ble 40 pc) (cond (Nat.ble 42 pc) (cond (Nat.beq pc 42) (some (.ireturn, 1, 0, 0, .null, [])) none) (cond (Nat.beq pc 40) (some (.bipush (-6), 2, 0, 0, .int (-6), [])) none)) (cond (Nat.beq pc 37) (some (.goto 5, 3, 42, 0, .null, [])) none)) (cond (Nat.ble 33 pc) (cond (Nat.ble 36 pc) (cond (Nat.beq pc 36) (some (.iload_n 1, 1, 0, 0, .null, [])) none) (cond (Nat.beq pc 33) (some (.if_icmp .ge 7, 3, 40, 0, .null, [])) none)) (cond (Nat.beq pc 32) (some (.imul, 1, 0, 0, .null, [])) none))) (cond (Nat.ble 27 pc) (cond (Nat.ble 28 pc) (cond (Nat.ble 29 pc) (cond (Nat.beq pc 29) (some (.invokevirtual 63, 3, 91, 0, .null, [621, 623, 15, 52])) none) (cond (Nat.beq pc 28) (some (.aload_n 0, 1, 0, 0, .null, [])) none)) (cond (Nat.beq pc 27) (some (.iconst 4, 1, 0, 0, .int 4, [])) none)) (cond (Nat.ble 23 pc) (cond (Nat.ble 26 pc) (cond (Nat.beq pc 26) (some (.iload_n 1, 1, 0, 0, .null, [])) none) (cond (Nat.beq pc 23) (some (.goto (-21), 3, 2, 0, .null, [])) none)) (cond (Nat.beq pc 20) (some (.iinc 1 1, 3, 0, 0, .int (1), [])) none)))) (cond (Nat.ble 8 pc) (cond (Nat.ble 13 pc) (cond (Nat.ble 14 pc) (cond (Nat.ble 17 pc) (cond (Nat.beq pc 17) (some (.ifCond .ne 9, 3, 26, 0, .null, [])) none) (cond (Nat.beq pc 14) (some (.invokevirtual 151, 3, 136, 1, .null, [757, 759, 36, 52])) none)) (cond (Nat.beq pc 13) (some (.iload_n 1, 1, 0, 0, .null, [])) none)) (cond (Nat.ble 9 pc) (cond (Nat.ble 12 pc) (cond (Nat.beq pc 12) (some (.aload_n 0, 1, 0, 0, .null, [])) none) (cond (Nat.beq pc 9) (some (.if_icmp .ge 17, 3, 26, 0, .null, [])) none)) (cond (Nat.beq pc 8) (some (.imul, 1, 0, 0, .null, [])) none))) (cond (Nat.ble 3 pc) (cond (Nat.ble 4 pc) (cond (Nat.ble 5 pc) (cond (Nat.beq pc 5) (some (.invokevirtual 63, 3, 91, 0, .null, [621, 623, 15, 52])) none) (cond (Nat.beq pc 4) (some (.aload_n 0, 1, 0, 0, .null, [])) none)) (cond (Nat.beq pc 3) (some (.iconst 4, 1, 0, 0, .int 4, [])) none)) (cond (Nat.ble 1 pc) (cond (Nat.ble 2 pc) (cond (Nat.beq pc 2) (some (.iload_n 1, 1, 0, 0, .null, [])) none) (cond (Nat.beq pc 1) (some (.istore_n 1, 1, 0, 0, .null, [])) none)) (cond (Nat.beq pc 0) (some (.iconst 0, 1, 0, 0, .int 0, [])) none))))
/-- BraidHornsModel.areBack()Z -/
def xI_139 : Nat → Option xEn := fun pc => cond (Nat.ble 23 pc) (cond (Nat.ble 36 pc) (cond (Nat.ble 41 pc) (cond (Nat.ble 47 pc) (cond (Nat.ble 48 pc) (cond (Nat.beq pc 48) (some (.ireturn, 1, 0, 0, .null, [])) none) (cond (Nat.beq pc 47) (some (.iload_n 1, 1, 0, 0, .null, [])) none)) (cond (Nat.ble 44 pc) (cond (Nat.beq pc 44) (some (.goto (-40), 3, 4, 0, .null, [])) none) (cond (Nat.beq pc 41) (some (.iinc 2 1, 3, 0, 0, .int (1), [])) none))) (cond (Nat.ble 39 pc) (cond (Nat.ble 40 pc) (cond (Nat.beq pc 40) (some (.istore_n 1, 1, 0, 0, .null, [])) none) (cond (Nat.beq pc 39) (some (.iconst 0, 1, 0, 0, .int 0, [])) none)) (cond (Nat.beq pc 36) (some (.goto 4, 3, 40, 0, .null, [])) none))) (cond (Nat.ble 26 pc) (cond (Nat.ble 32 pc) (cond (Nat.ble 35 pc) (cond (Nat.beq pc 35) (some (.iconst 1, 1, 0, 0, .int 1, [])) none) (cond (Nat.beq pc 32) (some (.ifCond .eq 7, 3, 39, 0, .null, [])) none)) (cond (Nat.ble 29 pc) (cond (Nat.beq pc 29) (some (.invokevirtual 154, 3, 103, 1, .null, [773, 775, 38, 52])) none) (cond (Nat.beq pc 26) (some (.invokevirtual 40, 3, 89, 2, .null, [590, 592, 11, 52])) none))) (cond (Nat.ble 24 pc) (cond (Nat.ble 25 pc) (cond (Nat.beq pc 25) (some (.iconst 0, 1, 0, 0, .int 0, [])) none) (cond (Nat.beq pc 24) (some (.iload_n 2, 1, 0, 0, .null, [])) none)) (cond (Nat.beq pc 23) (some (.aload_n 0, 1, 0, 0, .null, [])) none)))) (cond (Nat.ble 10 pc) (cond (Nat.ble 15 pc) (cond (Nat.ble 19 pc) (cond (Nat.ble 22 pc) (cond (Nat.beq pc 22) (some (.aload_n 0, 1, 0, 0, .null, [])) none) (cond (Nat.beq pc 19) (some (.ifCond .eq 16, 3, 35, 0, .null, [])) none)) (cond (Nat.ble 16 pc) (cond (Nat.beq pc 16) (some (.invokevirtual 44, 3, 90, 1, .null, [586, 588, 10, 52])) none) (cond (Nat.beq pc 15) (some (.iload_n 2, 1, 0, 0, .null, [])) none))) (cond (Nat.ble 11 pc) (cond (Nat.ble 14 pc) (cond (Nat.beq pc 14) (some (.aload_n 0, 1, 0, 0, .null, [])) none) (cond (Nat.beq pc 11) (some (.ifCond .eq 28, 3, 39, 0, .null, [])) none)) (cond (Nat.beq pc 10) (some (.iload_n 1, 1, 0, 0, .null, [])) none))) (cond (Nat.ble 3 pc) (cond (Nat.ble 5 pc) (cond (Nat.ble 7 pc) (cond (Nat.beq pc 7) (some (.if_icmp .ge 40, 3, 47, 0, .null, [])) none) (cond (Nat.beq pc 5) (some (.bipush 10, 2, 0, 0, .int 10, [])) none)) (cond (Nat.ble 4 pc) (cond (Nat.beq pc 4) (some (.iload_n 2, 1, 0, 0, .null, [])) none) (cond (Nat.beq pc 3) (some (.istore_n 2, 1, 0, 0, .null, [])) none))) (cond (Nat.ble 1 pc) (cond (Nat.ble 2 pc) (cond (Nat.beq pc 2) (some (.iconst 0, 1, 0, 0, .int 0, [])) none) (cond (Nat.beq pc 1) (some (.istore_n 1, 1, 0, 0, .null, [])) none)) (cond (Nat.beq pc 0) (some (.iconst 1, 1, 0, 0, .int 1, [])) none))))
/-- BraidHornsModel.period()I -/
def xI_140 : Nat → Option xEn := fun pc => cond (Nat.ble 26 pc) (cond (Nat.ble 39 pc) (cond (Nat.ble 47 pc) (cond (Nat.ble 53 pc) (cond (Nat.ble 55 pc) (cond (Nat.beq pc 55) (some (.ireturn, 1, 0, 0, .null, [])) none) (cond (Nat.beq pc 53) (some (.bipush (-6), 2, 0, 0, .int (-6), [])) none)) (cond (Nat.ble 50 pc) (cond (Nat.beq pc 50) (some (.goto (-34), 3, 16, 0, .null, [])) none) (cond (Nat.beq pc 47) (some (.iinc 1 1, 3, 0, 0, .int (1), [])) none))) (cond (Nat.ble 45 pc) (cond (Nat.ble 46 pc) (cond (Nat.beq pc 46) (some (.ireturn, 1, 0, 0, .null, [])) none) (cond (Nat.beq pc 45) (some (.iload_n 1, 1, 0, 0, .null, [])) none)) (cond (Nat.ble 42 pc) (cond (Nat.beq pc 42) (some (.ifCond .eq 5, 3, 47, 0, .null, [])) none) (cond (Nat.beq pc 39) (some (.invokevirtual 157, 3, 139, 0, .null, [769, 771, 37, 52])) none)))) (cond (Nat.ble 33 pc) (cond (Nat.ble 35 pc) (cond (Nat.ble 38 pc) (cond (Nat.beq pc 38) (some (.aload_n 0, 1, 0, 0, .null, [])) none) (cond (Nat.beq pc 35) (some (.invokevirtual 142, 3, 105, 0, .null, [745, 747, 34, 52])) none)) (cond (Nat.ble 34 pc) (cond (Nat.beq pc 34) (some (.aload_n 0, 1, 0, 0, .null, [])) none) (cond (Nat.beq pc 33) (some (.ireturn, 1, 0, 0, .null, [])) none))) (cond (Nat.ble 28 pc) (cond (Nat.ble 31 pc) (cond (Nat.beq pc 31) (some (.bipush (-6), 2, 0, 0, .int (-6), [])) none) (cond (Nat.beq pc 28) (some (.if_icmp .eq 6, 3, 34, 0, .null, [])) none)) (cond (Nat.beq pc 26) (some (.bipush (-6), 2, 0, 0, .int (-6), [])) none)))) (cond (Nat.ble 14 pc) (cond (Nat.ble 17 pc) (cond (Nat.ble 22 pc) (cond (Nat.ble 23 pc) (cond (Nat.beq pc 23) (some (.invokevirtual 112, 3, 104, 0, .null, [669, 671, 25, 52])) none) (cond (Nat.beq pc 22) (some (.aload_n 0, 1, 0, 0, .null, [])) none)) (cond (Nat.ble 19 pc) (cond (Nat.beq pc 19) (some (.if_icmp .gt 34, 3, 53, 0, .null, [])) none) (cond (Nat.beq pc 17) (some (.bipush 100, 2, 0, 0, .int 100, [])) none))) (cond (Nat.ble 15 pc) (cond (Nat.ble 16 pc) (cond (Nat.beq pc 16) (some (.iload_n 1, 1, 0, 0, .null, [])) none) (cond (Nat.beq pc 15) (some (.istore_n 1, 1, 0, 0, .null, [])) none)) (cond (Nat.beq pc 14) (some (.iconst 1, 1, 0, 0, .int 1, [])) none))) (cond (Nat.ble 5 pc) (cond (Nat.ble 11 pc) (cond (Nat.ble 13 pc) (cond (Nat.beq pc 13) (some (.ireturn, 1, 0, 0, .null, [])) none) (cond (Nat.beq pc 11) (some (.bipush (-5), 2, 0, 0, .int (-5), [])) none)) (cond (Nat.ble 8 pc) (cond (Nat.beq pc 8) (some (.ifCond .ne 6, 3, 14, 0, .null, [])) none) (cond (Nat.beq pc 5) (some (.getfield 66, 3, 4, 8, .null, [539])) none))) (cond (Nat.ble 1 pc) (cond (Nat.ble 4 pc) (cond (Nat.beq pc 4) (some (.aload_n 0, 1, 0, 0, .null, [])) none) (cond (Nat.beq pc 1) (some (.invokevirtual 102, 3, 102, 0, .null, [657, 659, 22, 52])) none)) (cond (Nat.beq pc 0) (some (.aload_n 0, 1, 0, 0, .null, [])) none))))
/-- BraidHornsModel.leastElls()I -/
def xI_141 : Nat → Option xEn := fun pc => cond (Nat.ble 23 pc) (cond (Nat.ble 36 pc) (cond (Nat.ble 41 pc) (cond (Nat.ble 47 pc) (cond (Nat.ble 48 pc) (cond (Nat.beq pc 48) (some (.ireturn, 1, 0, 0, .null, [])) none) (cond (Nat.beq pc 47) (some (.iload_n 1, 1, 0, 0, .null, [])) none)) (cond (Nat.ble 44 pc) (cond (Nat.beq pc 44) (some (.goto (-38), 3, 6, 0, .null, [])) none) (cond (Nat.beq pc 41) (some (.iinc 2 1, 3, 0, 0, .int (1), [])) none))) (cond (Nat.ble 39 pc) (cond (Nat.ble 40 pc) (cond (Nat.beq pc 40) (some (.istore_n 1, 1, 0, 0, .null, [])) none) (cond (Nat.beq pc 39) (some (.iload_n 1, 1, 0, 0, .null, [])) none)) (cond (Nat.beq pc 36) (some (.goto 4, 3, 40, 0, .null, [])) none))) (cond (Nat.ble 30 pc) (cond (Nat.ble 32 pc) (cond (Nat.ble 33 pc) (cond (Nat.beq pc 33) (some (.invokevirtual 40, 3, 89, 2, .null, [590, 592, 11, 52])) none) (cond (Nat.beq pc 32) (some (.iconst 1, 1, 0, 0, .int 1, [])) none)) (cond (Nat.ble 31 pc) (cond (Nat.beq pc 31) (some (.iload_n 2, 1, 0, 0, .null, [])) none) (cond (Nat.beq pc 30) (some (.aload_n 0, 1, 0, 0, .null, [])) none))) (cond (Nat.ble 26 pc) (cond (Nat.ble 27 pc) (cond (Nat.beq pc 27) (some (.if_icmp .ge 12, 3, 39, 0, .null, [])) none) (cond (Nat.beq pc 26) (some (.iload_n 1, 1, 0, 0, .null, [])) none)) (cond (Nat.beq pc 23) (some (.invokevirtual 40, 3, 89, 2, .null, [590, 592, 11, 52])) none)))) (cond (Nat.ble 12 pc) (cond (Nat.ble 17 pc) (cond (Nat.ble 21 pc) (cond (Nat.ble 22 pc) (cond (Nat.beq pc 22) (some (.iconst 1, 1, 0, 0, .int 1, [])) none) (cond (Nat.beq pc 21) (some (.iload_n 2, 1, 0, 0, .null, [])) none)) (cond (Nat.ble 20 pc) (cond (Nat.beq pc 20) (some (.aload_n 0, 1, 0, 0, .null, [])) none) (cond (Nat.beq pc 17) (some (.ifCond .eq 22, 3, 39, 0, .null, [])) none))) (cond (Nat.ble 13 pc) (cond (Nat.ble 14 pc) (cond (Nat.beq pc 14) (some (.invokevirtual 44, 3, 90, 1, .null, [586, 588, 10, 52])) none) (cond (Nat.beq pc 13) (some (.iload_n 2, 1, 0, 0, .null, [])) none)) (cond (Nat.beq pc 12) (some (.aload_n 0, 1, 0, 0, .null, [])) none))) (cond (Nat.ble 5 pc) (cond (Nat.ble 7 pc) (cond (Nat.ble 9 pc) (cond (Nat.beq pc 9) (some (.if_icmp .ge 38, 3, 47, 0, .null, [])) none) (cond (Nat.beq pc 7) (some (.bipush 10, 2, 0, 0, .int 10, [])) none)) (cond (Nat.ble 6 pc) (cond (Nat.beq pc 6) (some (.iload_n 2, 1, 0, 0, .null, [])) none) (cond (Nat.beq pc 5) (some (.istore_n 2, 1, 0, 0, .null, [])) none))) (cond (Nat.ble 3 pc) (cond (Nat.ble 4 pc) (cond (Nat.beq pc 4) (some (.iconst 0, 1, 0, 0, .int 0, [])) none) (cond (Nat.beq pc 3) (some (.istore_n 1, 1, 0, 0, .null, [])) none)) (cond (Nat.beq pc 0) (some (.sipush 999, 3, 0, 0, .int 999, [])) none))))
/-- BraidHornsModel.lasts()I -/
def xI_142 : Nat → Option xEn := fun pc => cond (Nat.ble 28 pc) (cond (Nat.ble 39 pc) (cond (Nat.ble 48 pc) (cond (Nat.ble 54 pc) (cond (Nat.ble 55 pc) (cond (Nat.beq pc 55) (some (.ireturn, 1, 0, 0, .null, [])) none) (cond (Nat.beq pc 54) (some (.iload_n 2, 1, 0, 0, .null, [])) none)) (cond (Nat.ble 51 pc) (cond (Nat.beq pc 51) (some (.goto (-21), 3, 30, 0, .null, [])) none) (cond (Nat.beq pc 48) (some (.iinc 2 1, 3, 0, 0, .int (1), [])) none))) (cond (Nat.ble 44 pc) (cond (Nat.ble 45 pc) (cond (Nat.beq pc 45) (some (.invokevirtual 142, 3, 105, 0, .null, [745, 747, 34, 52])) none) (cond (Nat.beq pc 44) (some (.aload_n 0, 1, 0, 0, .null, [])) none)) (cond (Nat.ble 41 pc) (cond (Nat.beq pc 41) (some (.if_icmp .ne 13, 3, 54, 0, .null, [])) none) (cond (Nat.beq pc 39) (some (.bipush (-6), 2, 0, 0, .int (-6), [])) none)))) (cond (Nat.ble 31 pc) (cond (Nat.ble 35 pc) (cond (Nat.ble 36 pc) (cond (Nat.beq pc 36) (some (.invokevirtual 112, 3, 104, 0, .null, [669, 671, 25, 52])) none) (cond (Nat.beq pc 35) (some (.aload_n 0, 1, 0, 0, .null, [])) none)) (cond (Nat.ble 32 pc) (cond (Nat.beq pc 32) (some (.if_icmp .ge 22, 3, 54, 0, .null, [])) none) (cond (Nat.beq pc 31) (some (.iload_n 1, 1, 0, 0, .null, [])) none))) (cond (Nat.ble 29 pc) (cond (Nat.ble 30 pc) (cond (Nat.beq pc 30) (some (.iload_n 2, 1, 0, 0, .null, [])) none) (cond (Nat.beq pc 29) (some (.istore_n 2, 1, 0, 0, .null, [])) none)) (cond (Nat.beq pc 28) (some (.iconst 0, 1, 0, 0, .int 0, [])) none)))) (cond (Nat.ble 13 pc) (cond (Nat.ble 20 pc) (cond (Nat.ble 24 pc) (cond (Nat.ble 27 pc) (cond (Nat.beq pc 27) (some (.istore_n 1, 1, 0, 0, .null, [])) none) (cond (Nat.beq pc 24) (some (.invokevirtual 160, 3, 141, 0, .null, [781, 783, 39, 52])) none)) (cond (Nat.ble 23 pc) (cond (Nat.beq pc 23) (some (.aload_n 0, 1, 0, 0, .null, [])) none) (cond (Nat.beq pc 20) (some (.goto 7, 3, 27, 0, .null, [])) none))) (cond (Nat.ble 16 pc) (cond (Nat.ble 19 pc) (cond (Nat.beq pc 19) (some (.iconst 0, 1, 0, 0, .int 0, [])) none) (cond (Nat.beq pc 16) (some (.ifCond .le 7, 3, 23, 0, .null, [])) none)) (cond (Nat.beq pc 13) (some (.invokevirtual 105, 3, 93, 1, .null, [661, 663, 23, 52])) none))) (cond (Nat.ble 5 pc) (cond (Nat.ble 11 pc) (cond (Nat.ble 12 pc) (cond (Nat.beq pc 12) (some (.iconst 2, 1, 0, 0, .int 2, [])) none) (cond (Nat.beq pc 11) (some (.aload_n 0, 1, 0, 0, .null, [])) none)) (cond (Nat.ble 8 pc) (cond (Nat.beq pc 8) (some (.ifCond .eq 11, 3, 19, 0, .null, [])) none) (cond (Nat.beq pc 5) (some (.getfield 66, 3, 4, 8, .null, [539])) none))) (cond (Nat.ble 1 pc) (cond (Nat.ble 4 pc) (cond (Nat.beq pc 4) (some (.aload_n 0, 1, 0, 0, .null, [])) none) (cond (Nat.beq pc 1) (some (.invokevirtual 102, 3, 102, 0, .null, [657, 659, 22, 52])) none)) (cond (Nat.beq pc 0) (some (.aload_n 0, 1, 0, 0, .null, [])) none))))
/-- BraidHornsModel.put(J)I -/
def xI_143 : Nat → Option xEn := fun pc => cond (Nat.ble 62 pc) (cond (Nat.ble 93 pc) (cond (Nat.ble 105 pc) (cond (Nat.ble 113 pc) (cond (Nat.ble 119 pc) (cond (Nat.ble 120 pc) (cond (Nat.ble 123 pc) (cond (Nat.beq pc 123) (some (.ireturn, 1, 0, 0, .null, [])) none) (cond (Nat.beq pc 120) (some (.getfield 139, 3, 4, 6, .null, [537])) none)) (cond (Nat.beq pc 119) (some (.aload_n 0, 1, 0, 0, .null, [])) none)) (cond (Nat.ble 116 pc) (cond (Nat.beq pc 116) (some (.goto (-39), 3, 77, 0, .null, [])) none) (cond (Nat.beq pc 113) (some (.iinc 6 (-1), 3, 0, 0, .int (-1), [])) none))) (cond (Nat.ble 109 pc) (cond (Nat.ble 110 pc) (cond (Nat.beq pc 110) (some (.putfield 139, 3, 4, 6, .null, [537])) none) (cond (Nat.beq pc 109) (some (.iadd, 1, 0, 0, .null, [])) none)) (cond (Nat.ble 108 pc) (cond (Nat.beq pc 108) (some (.iconst 1, 1, 0, 0, .int 1, [])) none) (cond (Nat.beq pc 105) (some (.getfield 139, 3, 4, 6, .null, [537])) none)))) (cond (Nat.ble 100 pc) (cond (Nat.ble 102 pc) (cond (Nat.ble 103 pc) (cond (Nat.ble 104 pc) (cond (Nat.beq pc 104) (some (.dup, 1, 0, 0, .null, [])) none) (cond (Nat.beq pc 103) (some (.aload_n 0, 1, 0, 0, .null, [])) none)) (cond (Nat.beq pc 102) (some (.iastore, 1, 0, 0, .null, [])) none)) (cond (Nat.ble 101 pc) (cond (Nat.beq pc 101) (some (.l2i, 1, 0, 0, .null, [])) none) (cond (Nat.beq pc 100) (some (.land, 1, 0, 0, .null, [])) none))) (cond (Nat.ble 96 pc) (cond (Nat.ble 97 pc) (cond (Nat.beq pc 97) (some (.ldc2_w 163, 3, 0, 0, .long (255), [789])) none) (cond (Nat.beq pc 96) (some (.lushr, 1, 0, 0, .null, [])) none)) (cond (Nat.ble 95 pc) (cond (Nat.beq pc 95) (some (.imul, 1, 0, 0, .null, [])) none) (cond (Nat.beq pc 93) (some (.iload 6, 2, 0, 0, .null, [])) none))))) (cond (Nat.ble 75 pc) (cond (Nat.ble 83 pc) (cond (Nat.ble 87 pc) (cond (Nat.ble 90 pc) (cond (Nat.ble 91 pc) (cond (Nat.beq pc 91) (some (.bipush 8, 2, 0, 0, .int 8, [])) none) (cond (Nat.beq pc 90) (some (.lload_n 1, 1, 0, 0, .null, [])) none)) (cond (Nat.beq pc 87) (some (.getfield 139, 3, 4, 6, .null, [537])) none)) (cond (Nat.ble 86 pc) (cond (Nat.beq pc 86) (some (.aload_n 0, 1, 0, 0, .null, [])) none) (cond (Nat.beq pc 83) (some (.getfield 23, 3, 4, 5, .null, [536])) none))) (cond (Nat.ble 79 pc) (cond (Nat.ble 82 pc) (cond (Nat.beq pc 82) (some (.aload_n 0, 1, 0, 0, .null, [])) none) (cond (Nat.beq pc 79) (some (.ifCond .lt 40, 3, 119, 0, .null, [])) none)) (cond (Nat.ble 77 pc) (cond (Nat.beq pc 77) (some (.iload 6, 2, 0, 0, .null, [])) none) (cond (Nat.beq pc 75) (some (.istore 6, 2, 0, 0, .null, [])) none)))) (cond (Nat.ble 70 pc) (cond (Nat.ble 73 pc) (cond (Nat.ble 74 pc) (cond (Nat.beq pc 74) (some (.isub, 1, 0, 0, .null, [])) none) (cond (Nat.beq pc 73) (some (.iconst 1, 1, 0, 0, .int 1, [])) none)) (cond (Nat.ble 71 pc) (cond (Nat.beq pc 71) (some (.iload 5, 2, 0, 0, .null, [])) none) (cond (Nat.beq pc 70) (some (.ireturn, 1, 0, 0, .null, [])) none))) (cond (Nat.ble 65 pc) (cond (Nat.ble 68 pc) (cond (Nat.beq pc 68) (some (.bipush (-4), 2, 0, 0, .int (-4), [])) none) (cond (Nat.beq pc 65) (some (.if_icmp .le 6, 3, 71, 0, .null, [])) none)) (cond (Nat.ble 63 pc) (cond (Nat.beq pc 63) (some (.bipush 80, 2, 0, 0, .int 80, [])) none) (cond (Nat.beq pc 62) (some (.iadd, 1, 0, 0, .null, [])) none)))))) (cond (Nat.ble 28 pc) (cond (Nat.ble 42 pc) (cond (Nat.ble 53 pc) (cond (Nat.ble 56 pc) (cond (Nat.ble 57 pc) (cond (Nat.ble 60 pc) (cond (Nat.beq pc 60) (some (.iload 5, 2, 0, 0, .null, [])) none) (cond (Nat.beq pc 57) (some (.getfield 139, 3, 4, 6, .null, [537])) none)) (cond (Nat.beq pc 56) (some (.aload_n 0, 1, 0, 0, .null, [])) none)) (cond (Nat.ble 55 pc) (cond (Nat.beq pc 55) (some (.ireturn, 1, 0, 0, .null, [])) none) (cond (Nat.beq pc 53) (some (.bipush (-2), 2, 0, 0, .int (-2), [])) none))) (cond (Nat.ble 48 pc) (cond (Nat.ble 50 pc) (cond (Nat.beq pc 50) (some (.ifCond .ne 6, 3, 56, 0, .null, [])) none) (cond (Nat.beq pc 48) (some (.iload 5, 2, 0, 0, .null, [])) none)) (cond (Nat.ble 45 pc) (cond (Nat.beq pc 45) (some (.goto (-40), 3, 5, 0, .null, [])) none) (cond (Nat.beq pc 42) (some (.iinc 5 1, 3, 0, 0, .int (1), [])) none)))) (cond (Nat.ble 37 pc) (cond (Nat.ble 40 pc) (cond (Nat.ble 41 pc) (cond (Nat.beq pc 41) (some (.lstore_n 3, 1, 0, 0, .null, [])) none) (cond (Nat.beq pc 40) (some (.lushr, 1, 0, 0, .null, [])) none)) (cond (Nat.ble 38 pc) (cond (Nat.beq pc 38) (some (.bipush 8, 2, 0, 0, .int 8, [])) none) (cond (Nat.beq pc 37) (some (.lload_n 3, 1, 0, 0, .null, [])) none))) (cond (Nat.ble 34 pc) (cond (Nat.ble 36 pc) (cond (Nat.beq pc 36) (some (.ireturn, 1, 0, 0, .null, [])) none) (cond (Nat.beq pc 34) (some (.bipush (-2), 2, 0, 0, .int (-2), [])) none)) (cond (Nat.ble 31 pc) (cond (Nat.beq pc 31) (some (.ifCond .ne 6, 3, 37, 0, .null, [])) none) (cond (Nat.beq pc 28) (some (.invokestatic 36, 3, 88, 3, .null, [579, 580, 52])) none))))) (cond (Nat.ble 11 pc) (cond (Nat.ble 19 pc) (cond (Nat.ble 23 pc) (cond (Nat.ble 24 pc) (cond (Nat.ble 26 pc) (cond (Nat.beq pc 26) (some (.bipush 126, 2, 0, 0, .int 126, [])) none) (cond (Nat.beq pc 24) (some (.bipush 33, 2, 0, 0, .int 33, [])) none)) (cond (Nat.beq pc 23) (some (.l2i, 1, 0, 0, .null, [])) none)) (cond (Nat.ble 22 pc) (cond (Nat.beq pc 22) (some (.land, 1, 0, 0, .null, [])) none) (cond (Nat.beq pc 19) (some (.ldc2_w 163, 3, 0, 0, .long (255), [789])) none))) (cond (Nat.ble 15 pc) (cond (Nat.ble 18 pc) (cond (Nat.beq pc 18) (some (.lload_n 3, 1, 0, 0, .null, [])) none) (cond (Nat.beq pc 15) (some (.if_icmp .ge 33, 3, 48, 0, .null, [])) none)) (cond (Nat.ble 13 pc) (cond (Nat.beq pc 13) (some (.bipush 8, 2, 0, 0, .int 8, [])) none) (cond (Nat.beq pc 11) (some (.iload 5, 2, 0, 0, .null, [])) none)))) (cond (Nat.ble 5 pc) (cond (Nat.ble 7 pc) (cond (Nat.ble 8 pc) (cond (Nat.beq pc 8) (some (.ifCond .eq 40, 3, 48, 0, .null, [])) none) (cond (Nat.beq pc 7) (some (.lcmp, 1, 0, 0, .null, [])) none)) (cond (Nat.ble 6 pc) (cond (Nat.beq pc 6) (some (.lconst 0, 1, 0, 0, .long 0, [])) none) (cond (Nat.beq pc 5) (some (.lload_n 3, 1, 0, 0, .null, [])) none))) (cond (Nat.ble 2 pc) (cond (Nat.ble 3 pc) (cond (Nat.beq pc 3) (some (.istore 5, 2, 0, 0, .null, [])) none) (cond (Nat.beq pc 2) (some (.iconst 0, 1, 0, 0, .int 0, [])) none)) (cond (Nat.ble 1 pc) (cond (Nat.beq pc 1) (some (.lstore_n 3, 1, 0, 0, .null, [])) none) (cond (Nat.beq pc 0) (some (.lload_n 1, 1, 0, 0, .null, [])) none))))))
/-- BraidHornsModel.wipe()I -/
def xI_144 : Nat → Option xEn := fun pc => cond (Nat.ble 6 pc) (cond (Nat.ble 10 pc) (cond (Nat.ble 11 pc) (cond (Nat.beq pc 11) (some (.ireturn, 1, 0, 0, .null, [])) none) (cond (Nat.beq pc 10) (some (.iload_n 1, 1, 0, 0, .null, [])) none)) (cond (Nat.ble 7 pc) (cond (Nat.beq pc 7) (some (.putfield 139, 3, 4, 6, .null, [537])) none) (cond (Nat.beq pc 6) (some (.iconst 0, 1, 0, 0, .int 0, [])) none))) (cond (Nat.ble 4 pc) (cond (Nat.ble 5 pc) (cond (Nat.beq pc 5) (some (.aload_n 0, 1, 0, 0, .null, [])) none) (cond (Nat.beq pc 4) (some (.istore_n 1, 1, 0, 0, .null, [])) none)) (cond (Nat.ble 1 pc) (cond (Nat.beq pc 1) (some (.getfield 139, 3, 4, 6, .null, [537])) none) (cond (Nat.beq pc 0) (some (.aload_n 0, 1, 0, 0, .null, [])) none)))
/-- BraidHornsModel.sees(II)Z -/
def xI_145 : Nat → Option xEn := fun pc => cond (Nat.ble 19 pc) (cond (Nat.ble 25 pc) (cond (Nat.ble 29 pc) (cond (Nat.ble 32 pc) (cond (Nat.ble 33 pc) (cond (Nat.beq pc 33) (some (.ireturn, 1, 0, 0, .null, [])) none) (cond (Nat.beq pc 32) (some (.iconst 0, 1, 0, 0, .int 0, [])) none)) (cond (Nat.beq pc 29) (some (.goto 4, 3, 33, 0, .null, [])) none)) (cond (Nat.ble 28 pc) (cond (Nat.beq pc 28) (some (.iconst 1, 1, 0, 0, .int 1, [])) none) (cond (Nat.beq pc 25) (some (.ifCond .eq 7, 3, 32, 0, .null, [])) none))) (cond (Nat.ble 21 pc) (cond (Nat.ble 22 pc) (cond (Nat.beq pc 22) (some (.invokestatic 36, 3, 88, 3, .null, [579, 580, 52])) none) (cond (Nat.beq pc 21) (some (.iload_n 2, 1, 0, 0, .null, [])) none)) (cond (Nat.ble 20 pc) (cond (Nat.beq pc 20) (some (.iload_n 1, 1, 0, 0, .null, [])) none) (cond (Nat.beq pc 19) (some (.iaload, 1, 0, 0, .null, [])) none)))) (cond (Nat.ble 8 pc) (cond (Nat.ble 12 pc) (cond (Nat.ble 15 pc) (cond (Nat.ble 16 pc) (cond (Nat.beq pc 16) (some (.getfield 165, 3, 4, 9, .null, [540])) none) (cond (Nat.beq pc 15) (some (.aload_n 0, 1, 0, 0, .null, [])) none)) (cond (Nat.beq pc 12) (some (.getfield 23, 3, 4, 5, .null, [536])) none)) (cond (Nat.ble 11 pc) (cond (Nat.beq pc 11) (some (.aload_n 0, 1, 0, 0, .null, [])) none) (cond (Nat.beq pc 8) (some (.if_icmp .ge 24, 3, 32, 0, .null, [])) none))) (cond (Nat.ble 4 pc) (cond (Nat.ble 5 pc) (cond (Nat.beq pc 5) (some (.getfield 139, 3, 4, 6, .null, [537])) none) (cond (Nat.beq pc 4) (some (.aload_n 0, 1, 0, 0, .null, [])) none)) (cond (Nat.ble 1 pc) (cond (Nat.beq pc 1) (some (.getfield 165, 3, 4, 9, .null, [540])) none) (cond (Nat.beq pc 0) (some (.aload_n 0, 1, 0, 0, .null, [])) none))))
/-- BraidHornsModel.takes(I)Z -/
def xI_146 : Nat → Option xEn := fun pc => cond (Nat.ble 12 pc) (cond (Nat.ble 20 pc) (cond (Nat.ble 22 pc) (cond (Nat.ble 25 pc) (cond (Nat.ble 26 pc) (cond (Nat.beq pc 26) (some (.ireturn, 1, 0, 0, .null, [])) none) (cond (Nat.beq pc 25) (some (.iload_n 2, 1, 0, 0, .null, [])) none)) (cond (Nat.beq pc 22) (some (.putfield 165, 3, 4, 9, .null, [540])) none)) (cond (Nat.ble 21 pc) (cond (Nat.beq pc 21) (some (.iadd, 1, 0, 0, .null, [])) none) (cond (Nat.beq pc 20) (some (.iconst 0, 1, 0, 0, .int 0, [])) none))) (cond (Nat.ble 16 pc) (cond (Nat.ble 17 pc) (cond (Nat.beq pc 17) (some (.goto 4, 3, 21, 0, .null, [])) none) (cond (Nat.beq pc 16) (some (.iconst 1, 1, 0, 0, .int 1, [])) none)) (cond (Nat.ble 13 pc) (cond (Nat.beq pc 13) (some (.ifCond .eq 7, 3, 20, 0, .null, [])) none) (cond (Nat.beq pc 12) (some (.iload_n 2, 1, 0, 0, .null, [])) none)))) (cond (Nat.ble 6 pc) (cond (Nat.ble 8 pc) (cond (Nat.ble 9 pc) (cond (Nat.beq pc 9) (some (.getfield 165, 3, 4, 9, .null, [540])) none) (cond (Nat.beq pc 8) (some (.dup, 1, 0, 0, .null, [])) none)) (cond (Nat.ble 7 pc) (cond (Nat.beq pc 7) (some (.aload_n 0, 1, 0, 0, .null, [])) none) (cond (Nat.beq pc 6) (some (.istore_n 2, 1, 0, 0, .null, [])) none))) (cond (Nat.ble 2 pc) (cond (Nat.ble 3 pc) (cond (Nat.beq pc 3) (some (.invokevirtual 168, 3, 145, 2, .null, [810, 812, 43, 52])) none) (cond (Nat.beq pc 2) (some (.iload_n 1, 1, 0, 0, .null, [])) none)) (cond (Nat.ble 1 pc) (cond (Nat.beq pc 1) (some (.iload_n 1, 1, 0, 0, .null, [])) none) (cond (Nat.beq pc 0) (some (.aload_n 0, 1, 0, 0, .null, [])) none))))
/-- BraidHornsModel.number(I)I -/
def xI_147 : Nat → Option xEn := fun pc => cond (Nat.ble 43 pc) (cond (Nat.ble 69 pc) (cond (Nat.ble 76 pc) (cond (Nat.ble 81 pc) (cond (Nat.ble 85 pc) (cond (Nat.ble 86 pc) (cond (Nat.beq pc 86) (some (.ireturn, 1, 0, 0, .null, [])) none) (cond (Nat.beq pc 85) (some (.iload_n 2, 1, 0, 0, .null, [])) none)) (cond (Nat.ble 82 pc) (cond (Nat.beq pc 82) (some (.putfield 165, 3, 4, 9, .null, [540])) none) (cond (Nat.beq pc 81) (some (.iadd, 1, 0, 0, .null, [])) none))) (cond (Nat.ble 77 pc) (cond (Nat.ble 80 pc) (cond (Nat.beq pc 80) (some (.iconst 1, 1, 0, 0, .int 1, [])) none) (cond (Nat.beq pc 77) (some (.getfield 165, 3, 4, 9, .null, [540])) none)) (cond (Nat.beq pc 76) (some (.dup, 1, 0, 0, .null, [])) none))) (cond (Nat.ble 73 pc) (cond (Nat.ble 74 pc) (cond (Nat.ble 75 pc) (cond (Nat.beq pc 75) (some (.aload_n 0, 1, 0, 0, .null, [])) none) (cond (Nat.beq pc 74) (some (.istore_n 2, 1, 0, 0, .null, [])) none)) (cond (Nat.beq pc 73) (some (.isub, 1, 0, 0, .null, [])) none)) (cond (Nat.ble 70 pc) (cond (Nat.ble 71 pc) (cond (Nat.beq pc 71) (some (.bipush 48, 2, 0, 0, .int 48, [])) none) (cond (Nat.beq pc 70) (some (.iadd, 1, 0, 0, .null, [])) none)) (cond (Nat.beq pc 69) (some (.iaload, 1, 0, 0, .null, [])) none)))) (cond (Nat.ble 57 pc) (cond (Nat.ble 61 pc) (cond (Nat.ble 65 pc) (cond (Nat.ble 66 pc) (cond (Nat.beq pc 66) (some (.getfield 165, 3, 4, 9, .null, [540])) none) (cond (Nat.beq pc 65) (some (.aload_n 0, 1, 0, 0, .null, [])) none)) (cond (Nat.ble 62 pc) (cond (Nat.beq pc 62) (some (.getfield 23, 3, 4, 5, .null, [536])) none) (cond (Nat.beq pc 61) (some (.aload_n 0, 1, 0, 0, .null, [])) none))) (cond (Nat.ble 59 pc) (cond (Nat.ble 60 pc) (cond (Nat.beq pc 60) (some (.imul, 1, 0, 0, .null, [])) none) (cond (Nat.beq pc 59) (some (.iload_n 2, 1, 0, 0, .null, [])) none)) (cond (Nat.beq pc 57) (some (.bipush 10, 2, 0, 0, .int 10, [])) none))) (cond (Nat.ble 49 pc) (cond (Nat.ble 51 pc) (cond (Nat.ble 54 pc) (cond (Nat.beq pc 54) (some (.ifCond .eq 31, 3, 85, 0, .null, [])) none) (cond (Nat.beq pc 51) (some (.invokevirtual 168, 3, 145, 2, .null, [810, 812, 43, 52])) none)) (cond (Nat.beq pc 49) (some (.bipush 57, 2, 0, 0, .int 57, [])) none)) (cond (Nat.ble 46 pc) (cond (Nat.ble 47 pc) (cond (Nat.beq pc 47) (some (.bipush 48, 2, 0, 0, .int 48, [])) none) (cond (Nat.beq pc 46) (some (.aload_n 0, 1, 0, 0, .null, [])) none)) (cond (Nat.beq pc 43) (some (.if_icmp .le 42, 3, 85, 0, .null, [])) none))))) (cond (Nat.ble 23 pc) (cond (Nat.ble 32 pc) (cond (Nat.ble 37 pc) (cond (Nat.ble 41 pc) (cond (Nat.ble 42 pc) (cond (Nat.beq pc 42) (some (.iconst 1, 1, 0, 0, .int 1, [])) none) (cond (Nat.beq pc 41) (some (.iload_n 1, 1, 0, 0, .null, [])) none)) (cond (Nat.ble 38 pc) (cond (Nat.beq pc 38) (some (.ifCond .le 47, 3, 85, 0, .null, [])) none) (cond (Nat.beq pc 37) (some (.iload_n 2, 1, 0, 0, .null, [])) none))) (cond (Nat.ble 33 pc) (cond (Nat.ble 34 pc) (cond (Nat.beq pc 34) (some (.putfield 165, 3, 4, 9, .null, [540])) none) (cond (Nat.beq pc 33) (some (.iadd, 1, 0, 0, .null, [])) none)) (cond (Nat.beq pc 32) (some (.iconst 1, 1, 0, 0, .int 1, [])) none))) (cond (Nat.ble 27 pc) (cond (Nat.ble 28 pc) (cond (Nat.ble 29 pc) (cond (Nat.beq pc 29) (some (.getfield 165, 3, 4, 9, .null, [540])) none) (cond (Nat.beq pc 28) (some (.dup, 1, 0, 0, .null, [])) none)) (cond (Nat.beq pc 27) (some (.aload_n 0, 1, 0, 0, .null, [])) none)) (cond (Nat.ble 25 pc) (cond (Nat.ble 26 pc) (cond (Nat.beq pc 26) (some (.istore_n 2, 1, 0, 0, .null, [])) none) (cond (Nat.beq pc 25) (some (.isub, 1, 0, 0, .null, [])) none)) (cond (Nat.beq pc 23) (some (.bipush 48, 2, 0, 0, .int 48, [])) none)))) (cond (Nat.ble 13 pc) (cond (Nat.ble 18 pc) (cond (Nat.ble 19 pc) (cond (Nat.ble 22 pc) (cond (Nat.beq pc 22) (some (.iaload, 1, 0, 0, .null, [])) none) (cond (Nat.beq pc 19) (some (.getfield 165, 3, 4, 9, .null, [540])) none)) (cond (Nat.beq pc 18) (some (.aload_n 0, 1, 0, 0, .null, [])) none)) (cond (Nat.ble 14 pc) (cond (Nat.ble 15 pc) (cond (Nat.beq pc 15) (some (.getfield 23, 3, 4, 5, .null, [536])) none) (cond (Nat.beq pc 14) (some (.aload_n 0, 1, 0, 0, .null, [])) none)) (cond (Nat.beq pc 13) (some (.ireturn, 1, 0, 0, .null, [])) none))) (cond (Nat.ble 5 pc) (cond (Nat.ble 8 pc) (cond (Nat.ble 11 pc) (cond (Nat.beq pc 11) (some (.bipush (-6), 2, 0, 0, .int (-6), [])) none) (cond (Nat.beq pc 8) (some (.ifCond .ne 6, 3, 14, 0, .null, [])) none)) (cond (Nat.beq pc 5) (some (.invokevirtual 168, 3, 145, 2, .null, [810, 812, 43, 52])) none)) (cond (Nat.ble 1 pc) (cond (Nat.ble 3 pc) (cond (Nat.beq pc 3) (some (.bipush 57, 2, 0, 0, .int 57, [])) none) (cond (Nat.beq pc 1) (some (.bipush 48, 2, 0, 0, .int 48, [])) none)) (cond (Nat.beq pc 0) (some (.aload_n 0, 1, 0, 0, .null, [])) none)))))
/-- BraidHornsModel.readOrder()Z -/
def xI_148 : Nat → Option xEn := fun pc => cond (Nat.ble 103 pc) (cond (Nat.ble 152 pc) (cond (Nat.ble 170 pc) (cond (Nat.ble 182 pc) (cond (Nat.ble 191 pc) (cond (Nat.ble 195 pc) (cond (Nat.ble 196 pc) (cond (Nat.beq pc 196) (some (.ireturn, 1, 0, 0, .null, [])) none) (cond (Nat.beq pc 195) (some (.iconst 0, 1, 0, 0, .int 0, [])) none)) (cond (Nat.ble 192 pc) (cond (Nat.beq pc 192) (some (.goto 4, 3, 196, 0, .null, [])) none) (cond (Nat.beq pc 191) (some (.iconst 1, 1, 0, 0, .int 1, [])) none))) (cond (Nat.ble 186 pc) (cond (Nat.ble 188 pc) (cond (Nat.beq pc 188) (some (.if_icmp .eq 7, 3, 195, 0, .null, [])) none) (cond (Nat.beq pc 186) (some (.bipush (-6), 2, 0, 0, .int (-6), [])) none)) (cond (Nat.ble 185 pc) (cond (Nat.beq pc 185) (some (.iload_n 3, 1, 0, 0, .null, [])) none) (cond (Nat.beq pc 182) (some (.if_icmp .eq 13, 3, 195, 0, .null, [])) none)))) (cond (Nat.ble 175 pc) (cond (Nat.ble 179 pc) (cond (Nat.ble 180 pc) (cond (Nat.beq pc 180) (some (.bipush (-6), 2, 0, 0, .int (-6), [])) none) (cond (Nat.beq pc 179) (some (.iload_n 2, 1, 0, 0, .null, [])) none)) (cond (Nat.ble 176 pc) (cond (Nat.beq pc 176) (some (.putfield 177, 3, 4, 11, .null, [542])) none) (cond (Nat.beq pc 175) (some (.iadd, 1, 0, 0, .null, [])) none))) (cond (Nat.ble 171 pc) (cond (Nat.ble 174 pc) (cond (Nat.beq pc 174) (some (.iconst 1, 1, 0, 0, .int 1, [])) none) (cond (Nat.beq pc 171) (some (.getfield 177, 3, 4, 11, .null, [542])) none)) (cond (Nat.beq pc 170) (some (.dup, 1, 0, 0, .null, [])) none)))) (cond (Nat.ble 161 pc) (cond (Nat.ble 166 pc) (cond (Nat.ble 168 pc) (cond (Nat.ble 169 pc) (cond (Nat.beq pc 169) (some (.aload_n 0, 1, 0, 0, .null, [])) none) (cond (Nat.beq pc 168) (some (.iastore, 1, 0, 0, .null, [])) none)) (cond (Nat.ble 167 pc) (cond (Nat.beq pc 167) (some (.iload_n 3, 1, 0, 0, .null, [])) none) (cond (Nat.beq pc 166) (some (.iadd, 1, 0, 0, .null, [])) none))) (cond (Nat.ble 164 pc) (cond (Nat.ble 165 pc) (cond (Nat.beq pc 165) (some (.iconst 2, 1, 0, 0, .int 2, [])) none) (cond (Nat.beq pc 164) (some (.imul, 1, 0, 0, .null, [])) none)) (cond (Nat.beq pc 161) (some (.getfield 177, 3, 4, 11, .null, [542])) none))) (cond (Nat.ble 155 pc) (cond (Nat.ble 159 pc) (cond (Nat.ble 160 pc) (cond (Nat.beq pc 160) (some (.aload_n 0, 1, 0, 0, .null, [])) none) (cond (Nat.beq pc 159) (some (.iconst 3, 1, 0, 0, .int 3, [])) none)) (cond (Nat.ble 156 pc) (cond (Nat.beq pc 156) (some (.getfield 29, 3, 4, 10, .null, [541])) none) (cond (Nat.beq pc 155) (some (.aload_n 0, 1, 0, 0, .null, [])) none))) (cond (Nat.ble 153 pc) (cond (Nat.ble 154 pc) (cond (Nat.beq pc 154) (some (.iastore, 1, 0, 0, .null, [])) none) (cond (Nat.beq pc 153) (some (.iload_n 2, 1, 0, 0, .null, [])) none)) (cond (Nat.beq pc 152) (some (.iadd, 1, 0, 0, .null, [])) none))))) (cond (Nat.ble 130 pc) (cond (Nat.ble 141 pc) (cond (Nat.ble 146 pc) (cond (Nat.ble 150 pc) (cond (Nat.ble 151 pc) (cond (Nat.beq pc 151) (some (.iconst 1, 1, 0, 0, .int 1, [])) none) (cond (Nat.beq pc 150) (some (.imul, 1, 0, 0, .null, [])) none)) (cond (Nat.ble 147 pc) (cond (Nat.beq pc 147) (some (.getfield 177, 3, 4, 11, .null, [542])) none) (cond (Nat.beq pc 146) (some (.aload_n 0, 1, 0, 0, .null, [])) none))) (cond (Nat.ble 142 pc) (cond (Nat.ble 145 pc) (cond (Nat.beq pc 145) (some (.iconst 3, 1, 0, 0, .int 3, [])) none) (cond (Nat.beq pc 142) (some (.getfield 29, 3, 4, 10, .null, [541])) none)) (cond (Nat.beq pc 141) (some (.aload_n 0, 1, 0, 0, .null, [])) none))) (cond (Nat.ble 135 pc) (cond (Nat.ble 139 pc) (cond (Nat.ble 140 pc) (cond (Nat.beq pc 140) (some (.iastore, 1, 0, 0, .null, [])) none) (cond (Nat.beq pc 139) (some (.iload_n 1, 1, 0, 0, .null, [])) none)) (cond (Nat.ble 138 pc) (cond (Nat.beq pc 138) (some (.imul, 1, 0, 0, .null, [])) none) (cond (Nat.beq pc 135) (some (.getfield 177, 3, 4, 11, .null, [542])) none))) (cond (Nat.ble 133 pc) (cond (Nat.ble 134 pc) (cond (Nat.beq pc 134) (some (.aload_n 0, 1, 0, 0, .null, [])) none) (cond (Nat.beq pc 133) (some (.iconst 3, 1, 0, 0, .int 3, [])) none)) (cond (Nat.beq pc 130) (some (.getfield 29, 3, 4, 10, .null, [541])) none)))) (cond (Nat.ble 118 pc) (cond (Nat.ble 123 pc) (cond (Nat.ble 128 pc) (cond (Nat.ble 129 pc) (cond (Nat.beq pc 129) (some (.aload_n 0, 1, 0, 0, .null, [])) none) (cond (Nat.beq pc 128) (some (.istore_n 3, 1, 0, 0, .null, [])) none)) (cond (Nat.ble 126 pc) (cond (Nat.beq pc 126) (some (.bipush (-6), 2, 0, 0, .int (-6), [])) none) (cond (Nat.beq pc 123) (some (.goto 5, 3, 128, 0, .null, [])) none))) (cond (Nat.ble 119 pc) (cond (Nat.ble 120 pc) (cond (Nat.beq pc 120) (some (.invokevirtual 171, 3, 147, 1, .null, [806, 808, 42, 52])) none) (cond (Nat.beq pc 119) (some (.iconst 1, 1, 0, 0, .int 1, [])) none)) (cond (Nat.beq pc 118) (some (.aload_n 0, 1, 0, 0, .null, [])) none))) (cond (Nat.ble 109 pc) (cond (Nat.ble 112 pc) (cond (Nat.ble 115 pc) (cond (Nat.beq pc 115) (some (.ifCond .eq 11, 3, 126, 0, .null, [])) none) (cond (Nat.beq pc 112) (some (.invokevirtual 174, 3, 146, 1, .null, [814, 816, 44, 52])) none)) (cond (Nat.ble 110 pc) (cond (Nat.beq pc 110) (some (.bipush 46, 2, 0, 0, .int 46, [])) none) (cond (Nat.beq pc 109) (some (.aload_n 0, 1, 0, 0, .null, [])) none))) (cond (Nat.ble 104 pc) (cond (Nat.ble 106 pc) (cond (Nat.beq pc 106) (some (.if_icmp .ne 23, 3, 129, 0, .null, [])) none) (cond (Nat.beq pc 104) (some (.bipush 99, 2, 0, 0, .int 99, [])) none)) (cond (Nat.beq pc 103) (some (.iload_n 1, 1, 0, 0, .null, [])) none)))))) (cond (Nat.ble 55 pc) (cond (Nat.ble 77 pc) (cond (Nat.ble 91 pc) (cond (Nat.ble 96 pc) (cond (Nat.ble 98 pc) (cond (Nat.ble 100 pc) (cond (Nat.beq pc 100) (some (.if_icmp .eq 29, 3, 129, 0, .null, [])) none) (cond (Nat.beq pc 98) (some (.bipush (-6), 2, 0, 0, .int (-6), [])) none)) (cond (Nat.ble 97 pc) (cond (Nat.beq pc 97) (some (.iload_n 2, 1, 0, 0, .null, [])) none) (cond (Nat.beq pc 96) (some (.istore_n 3, 1, 0, 0, .null, [])) none))) (cond (Nat.ble 94 pc) (cond (Nat.ble 95 pc) (cond (Nat.beq pc 95) (some (.iconst 0, 1, 0, 0, .int 0, [])) none) (cond (Nat.beq pc 94) (some (.istore_n 2, 1, 0, 0, .null, [])) none)) (cond (Nat.beq pc 91) (some (.invokevirtual 171, 3, 147, 1, .null, [806, 808, 42, 52])) none))) (cond (Nat.ble 83 pc) (cond (Nat.ble 87 pc) (cond (Nat.ble 90 pc) (cond (Nat.beq pc 90) (some (.iconst 1, 1, 0, 0, .int 1, [])) none) (cond (Nat.beq pc 87) (some (.goto 4, 3, 91, 0, .null, [])) none)) (cond (Nat.ble 86 pc) (cond (Nat.beq pc 86) (some (.iconst 2, 1, 0, 0, .int 2, [])) none) (cond (Nat.beq pc 83) (some (.if_icmp .ne 7, 3, 90, 0, .null, [])) none))) (cond (Nat.ble 80 pc) (cond (Nat.ble 81 pc) (cond (Nat.beq pc 81) (some (.bipush 114, 2, 0, 0, .int 114, [])) none) (cond (Nat.beq pc 80) (some (.iload_n 1, 1, 0, 0, .null, [])) none)) (cond (Nat.beq pc 77) (some (.if_icmp .eq 9, 3, 86, 0, .null, [])) none)))) (cond (Nat.ble 65 pc) (cond (Nat.ble 70 pc) (cond (Nat.ble 74 pc) (cond (Nat.ble 75 pc) (cond (Nat.beq pc 75) (some (.bipush 99, 2, 0, 0, .int 99, [])) none) (cond (Nat.beq pc 74) (some (.iload_n 1, 1, 0, 0, .null, [])) none)) (cond (Nat.ble 73 pc) (cond (Nat.beq pc 73) (some (.aload_n 0, 1, 0, 0, .null, [])) none) (cond (Nat.beq pc 70) (some (.putfield 165, 3, 4, 9, .null, [540])) none))) (cond (Nat.ble 68 pc) (cond (Nat.ble 69 pc) (cond (Nat.beq pc 69) (some (.iadd, 1, 0, 0, .null, [])) none) (cond (Nat.beq pc 68) (some (.iconst 1, 1, 0, 0, .int 1, [])) none)) (cond (Nat.beq pc 65) (some (.getfield 165, 3, 4, 9, .null, [540])) none))) (cond (Nat.ble 61 pc) (cond (Nat.ble 63 pc) (cond (Nat.ble 64 pc) (cond (Nat.beq pc 64) (some (.dup, 1, 0, 0, .null, [])) none) (cond (Nat.beq pc 63) (some (.aload_n 0, 1, 0, 0, .null, [])) none)) (cond (Nat.ble 62 pc) (cond (Nat.beq pc 62) (some (.ireturn, 1, 0, 0, .null, [])) none) (cond (Nat.beq pc 61) (some (.iconst 0, 1, 0, 0, .int 0, [])) none))) (cond (Nat.ble 56 pc) (cond (Nat.ble 58 pc) (cond (Nat.beq pc 58) (some (.if_icmp .eq 5, 3, 63, 0, .null, [])) none) (cond (Nat.beq pc 56) (some (.bipush 102, 2, 0, 0, .int 102, [])) none)) (cond (Nat.beq pc 55) (some (.iload_n 1, 1, 0, 0, .null, [])) none))))) (cond (Nat.ble 26 pc) (cond (Nat.ble 40 pc) (cond (Nat.ble 46 pc) (cond (Nat.ble 50 pc) (cond (Nat.ble 52 pc) (cond (Nat.beq pc 52) (some (.if_icmp .eq 11, 3, 63, 0, .null, [])) none) (cond (Nat.beq pc 50) (some (.bipush 107, 2, 0, 0, .int 107, [])) none)) (cond (Nat.ble 49 pc) (cond (Nat.beq pc 49) (some (.iload_n 1, 1, 0, 0, .null, [])) none) (cond (Nat.beq pc 46) (some (.if_icmp .eq 17, 3, 63, 0, .null, [])) none))) (cond (Nat.ble 43 pc) (cond (Nat.ble 44 pc) (cond (Nat.beq pc 44) (some (.bipush 98, 2, 0, 0, .int 98, [])) none) (cond (Nat.beq pc 43) (some (.iload_n 1, 1, 0, 0, .null, [])) none)) (cond (Nat.beq pc 40) (some (.if_icmp .eq 23, 3, 63, 0, .null, [])) none))) (cond (Nat.ble 32 pc) (cond (Nat.ble 37 pc) (cond (Nat.ble 38 pc) (cond (Nat.beq pc 38) (some (.bipush 114, 2, 0, 0, .int 114, [])) none) (cond (Nat.beq pc 37) (some (.iload_n 1, 1, 0, 0, .null, [])) none)) (cond (Nat.ble 34 pc) (cond (Nat.beq pc 34) (some (.if_icmp .eq 29, 3, 63, 0, .null, [])) none) (cond (Nat.beq pc 32) (some (.bipush 120, 2, 0, 0, .int 120, [])) none))) (cond (Nat.ble 28 pc) (cond (Nat.ble 31 pc) (cond (Nat.beq pc 31) (some (.iload_n 1, 1, 0, 0, .null, [])) none) (cond (Nat.beq pc 28) (some (.if_icmp .eq 35, 3, 63, 0, .null, [])) none)) (cond (Nat.beq pc 26) (some (.bipush 99, 2, 0, 0, .int 99, [])) none)))) (cond (Nat.ble 15 pc) (cond (Nat.ble 20 pc) (cond (Nat.ble 24 pc) (cond (Nat.ble 25 pc) (cond (Nat.beq pc 25) (some (.iload_n 1, 1, 0, 0, .null, [])) none) (cond (Nat.beq pc 24) (some (.istore_n 1, 1, 0, 0, .null, [])) none)) (cond (Nat.ble 23 pc) (cond (Nat.beq pc 23) (some (.iconst 0, 1, 0, 0, .int 0, [])) none) (cond (Nat.beq pc 20) (some (.goto 4, 3, 24, 0, .null, [])) none))) (cond (Nat.ble 16 pc) (cond (Nat.ble 19 pc) (cond (Nat.beq pc 19) (some (.iaload, 1, 0, 0, .null, [])) none) (cond (Nat.beq pc 16) (some (.getfield 165, 3, 4, 9, .null, [540])) none)) (cond (Nat.beq pc 15) (some (.aload_n 0, 1, 0, 0, .null, [])) none))) (cond (Nat.ble 5 pc) (cond (Nat.ble 11 pc) (cond (Nat.ble 12 pc) (cond (Nat.beq pc 12) (some (.getfield 23, 3, 4, 5, .null, [536])) none) (cond (Nat.beq pc 11) (some (.aload_n 0, 1, 0, 0, .null, [])) none)) (cond (Nat.ble 8 pc) (cond (Nat.beq pc 8) (some (.if_icmp .ge 15, 3, 23, 0, .null, [])) none) (cond (Nat.beq pc 5) (some (.getfield 139, 3, 4, 6, .null, [537])) none))) (cond (Nat.ble 1 pc) (cond (Nat.ble 4 pc) (cond (Nat.beq pc 4) (some (.aload_n 0, 1, 0, 0, .null, [])) none) (cond (Nat.beq pc 1) (some (.getfield 165, 3, 4, 9, .null, [540])) none)) (cond (Nat.beq pc 0) (some (.aload_n 0, 1, 0, 0, .null, [])) none))))))
/-- BraidHornsModel.readPad()Z -/
def xI_149 : Nat → Option xEn := fun pc => cond (Nat.ble 27 pc) (cond (Nat.ble 43 pc) (cond (Nat.ble 51 pc) (cond (Nat.ble 55 pc) (cond (Nat.ble 56 pc) (cond (Nat.beq pc 56) (some (.ireturn, 1, 0, 0, .null, [])) none) (cond (Nat.beq pc 55) (some (.iload_n 1, 1, 0, 0, .null, [])) none)) (cond (Nat.ble 52 pc) (cond (Nat.beq pc 52) (some (.goto (-37), 3, 15, 0, .null, [])) none) (cond (Nat.beq pc 51) (some (.istore_n 1, 1, 0, 0, .null, [])) none))) (cond (Nat.ble 47 pc) (cond (Nat.ble 50 pc) (cond (Nat.beq pc 50) (some (.iconst 0, 1, 0, 0, .int 0, [])) none) (cond (Nat.beq pc 47) (some (.goto 4, 3, 51, 0, .null, [])) none)) (cond (Nat.ble 46 pc) (cond (Nat.beq pc 46) (some (.iconst 1, 1, 0, 0, .int 1, [])) none) (cond (Nat.beq pc 43) (some (.ifCond .eq 7, 3, 50, 0, .null, [])) none)))) (cond (Nat.ble 33 pc) (cond (Nat.ble 39 pc) (cond (Nat.ble 40 pc) (cond (Nat.beq pc 40) (some (.invokevirtual 180, 3, 148, 0, .null, [802, 804, 41, 52])) none) (cond (Nat.beq pc 39) (some (.aload_n 0, 1, 0, 0, .null, [])) none)) (cond (Nat.ble 36 pc) (cond (Nat.beq pc 36) (some (.ifCond .eq 14, 3, 50, 0, .null, [])) none) (cond (Nat.beq pc 33) (some (.invokevirtual 174, 3, 146, 1, .null, [814, 816, 44, 52])) none))) (cond (Nat.ble 30 pc) (cond (Nat.ble 31 pc) (cond (Nat.beq pc 31) (some (.bipush 59, 2, 0, 0, .int 59, [])) none) (cond (Nat.beq pc 30) (some (.aload_n 0, 1, 0, 0, .null, [])) none)) (cond (Nat.beq pc 27) (some (.if_icmp .ge 28, 3, 55, 0, .null, [])) none)))) (cond (Nat.ble 11 pc) (cond (Nat.ble 19 pc) (cond (Nat.ble 23 pc) (cond (Nat.ble 24 pc) (cond (Nat.beq pc 24) (some (.getfield 139, 3, 4, 6, .null, [537])) none) (cond (Nat.beq pc 23) (some (.aload_n 0, 1, 0, 0, .null, [])) none)) (cond (Nat.ble 20 pc) (cond (Nat.beq pc 20) (some (.getfield 165, 3, 4, 9, .null, [540])) none) (cond (Nat.beq pc 19) (some (.aload_n 0, 1, 0, 0, .null, [])) none))) (cond (Nat.ble 15 pc) (cond (Nat.ble 16 pc) (cond (Nat.beq pc 16) (some (.ifCond .eq 39, 3, 55, 0, .null, [])) none) (cond (Nat.beq pc 15) (some (.iload_n 1, 1, 0, 0, .null, [])) none)) (cond (Nat.ble 14 pc) (cond (Nat.beq pc 14) (some (.istore_n 1, 1, 0, 0, .null, [])) none) (cond (Nat.beq pc 11) (some (.invokevirtual 180, 3, 148, 0, .null, [802, 804, 41, 52])) none)))) (cond (Nat.ble 5 pc) (cond (Nat.ble 7 pc) (cond (Nat.ble 10 pc) (cond (Nat.beq pc 10) (some (.aload_n 0, 1, 0, 0, .null, [])) none) (cond (Nat.beq pc 7) (some (.putfield 177, 3, 4, 11, .null, [542])) none)) (cond (Nat.ble 6 pc) (cond (Nat.beq pc 6) (some (.iconst 0, 1, 0, 0, .int 0, [])) none) (cond (Nat.beq pc 5) (some (.aload_n 0, 1, 0, 0, .null, [])) none))) (cond (Nat.ble 1 pc) (cond (Nat.ble 2 pc) (cond (Nat.beq pc 2) (some (.putfield 165, 3, 4, 9, .null, [540])) none) (cond (Nat.beq pc 1) (some (.iconst 0, 1, 0, 0, .int 0, [])) none)) (cond (Nat.beq pc 0) (some (.aload_n 0, 1, 0, 0, .null, [])) none))))
/-- BraidHornsModel.fault()I -/
def xI_150 : Nat → Option xEn := fun pc => cond (Nat.ble 9 pc) (cond (Nat.ble 13 pc) (cond (Nat.ble 16 pc) (cond (Nat.beq pc 16) (some (.ireturn, 1, 0, 0, .null, [])) none) (cond (Nat.beq pc 13) (some (.getfield 165, 3, 4, 9, .null, [540])) none)) (cond (Nat.ble 12 pc) (cond (Nat.beq pc 12) (some (.aload_n 0, 1, 0, 0, .null, [])) none) (cond (Nat.beq pc 9) (some (.goto 7, 3, 16, 0, .null, [])) none))) (cond (Nat.ble 4 pc) (cond (Nat.ble 7 pc) (cond (Nat.beq pc 7) (some (.bipush (-6), 2, 0, 0, .int (-6), [])) none) (cond (Nat.beq pc 4) (some (.ifCond .eq 8, 3, 12, 0, .null, [])) none)) (cond (Nat.ble 1 pc) (cond (Nat.beq pc 1) (some (.invokevirtual 183, 3, 149, 0, .null, [798, 800, 40, 52])) none) (cond (Nat.beq pc 0) (some (.aload_n 0, 1, 0, 0, .null, [])) none)))
/-- BraidHornsModel.whyNot(I)I -/
def xI_151 : Nat → Option xEn := fun pc => cond (Nat.ble 71 pc) (cond (Nat.ble 89 pc) (cond (Nat.ble 97 pc) (cond (Nat.ble 104 pc) (cond (Nat.ble 108 pc) (cond (Nat.ble 109 pc) (cond (Nat.beq pc 109) (some (.ireturn, 1, 0, 0, .null, [])) none) (cond (Nat.beq pc 108) (some (.iconst (-1), 1, 0, 0, .int (-1), [])) none)) (cond (Nat.ble 105 pc) (cond (Nat.beq pc 105) (some (.goto 4, 3, 109, 0, .null, [])) none) (cond (Nat.beq pc 104) (some (.iconst 0, 1, 0, 0, .int 0, [])) none))) (cond (Nat.ble 98 pc) (cond (Nat.ble 101 pc) (cond (Nat.beq pc 101) (some (.ifCond .eq 7, 3, 108, 0, .null, [])) none) (cond (Nat.beq pc 98) (some (.invokevirtual 44, 3, 90, 1, .null, [586, 588, 10, 52])) none)) (cond (Nat.beq pc 97) (some (.iload_n 2, 1, 0, 0, .null, [])) none))) (cond (Nat.ble 92 pc) (cond (Nat.ble 95 pc) (cond (Nat.ble 96 pc) (cond (Nat.beq pc 96) (some (.aload_n 0, 1, 0, 0, .null, [])) none) (cond (Nat.beq pc 95) (some (.ireturn, 1, 0, 0, .null, [])) none)) (cond (Nat.beq pc 92) (some (.invokevirtual 127, 3, 122, 2, .null, [697, 699, 29, 52])) none)) (cond (Nat.ble 90 pc) (cond (Nat.ble 91 pc) (cond (Nat.beq pc 91) (some (.iconst 1, 1, 0, 0, .int 1, [])) none) (cond (Nat.beq pc 90) (some (.iload_n 2, 1, 0, 0, .null, [])) none)) (cond (Nat.beq pc 89) (some (.aload_n 0, 1, 0, 0, .null, [])) none)))) (cond (Nat.ble 81 pc) (cond (Nat.ble 84 pc) (cond (Nat.ble 85 pc) (cond (Nat.ble 88 pc) (cond (Nat.beq pc 88) (some (.ireturn, 1, 0, 0, .null, [])) none) (cond (Nat.beq pc 85) (some (.invokevirtual 127, 3, 122, 2, .null, [697, 699, 29, 52])) none)) (cond (Nat.beq pc 84) (some (.iconst 0, 1, 0, 0, .int 0, [])) none)) (cond (Nat.ble 82 pc) (cond (Nat.ble 83 pc) (cond (Nat.beq pc 83) (some (.iload_n 2, 1, 0, 0, .null, [])) none) (cond (Nat.beq pc 82) (some (.aload_n 0, 1, 0, 0, .null, [])) none)) (cond (Nat.beq pc 81) (some (.ireturn, 1, 0, 0, .null, [])) none))) (cond (Nat.ble 76 pc) (cond (Nat.ble 77 pc) (cond (Nat.ble 78 pc) (cond (Nat.beq pc 78) (some (.invokevirtual 121, 3, 119, 1, .null, [680, 682, 26, 52])) none) (cond (Nat.beq pc 77) (some (.iload_n 2, 1, 0, 0, .null, [])) none)) (cond (Nat.beq pc 76) (some (.aload_n 0, 1, 0, 0, .null, [])) none)) (cond (Nat.ble 72 pc) (cond (Nat.ble 75 pc) (cond (Nat.beq pc 75) (some (.ireturn, 1, 0, 0, .null, [])) none) (cond (Nat.beq pc 72) (some (.invokevirtual 93, 3, 110, 2, .null, [613, 615, 13, 52])) none)) (cond (Nat.beq pc 71) (some (.iaload, 1, 0, 0, .null, [])) none))))) (cond (Nat.ble 16 pc) (cond (Nat.ble 62 pc) (cond (Nat.ble 67 pc) (cond (Nat.ble 69 pc) (cond (Nat.ble 70 pc) (cond (Nat.beq pc 70) (some (.iadd, 1, 0, 0, .null, [])) none) (cond (Nat.beq pc 69) (some (.iconst 2, 1, 0, 0, .int 2, [])) none)) (cond (Nat.ble 68 pc) (cond (Nat.beq pc 68) (some (.imul, 1, 0, 0, .null, [])) none) (cond (Nat.beq pc 67) (some (.iload_n 1, 1, 0, 0, .null, [])) none))) (cond (Nat.ble 63 pc) (cond (Nat.ble 66 pc) (cond (Nat.beq pc 66) (some (.iconst 3, 1, 0, 0, .int 3, [])) none) (cond (Nat.beq pc 63) (some (.getfield 29, 3, 4, 10, .null, [541])) none)) (cond (Nat.beq pc 62) (some (.aload_n 0, 1, 0, 0, .null, [])) none))) (cond (Nat.ble 19 pc) (cond (Nat.ble 60 pc) (cond (Nat.ble 61 pc) (cond (Nat.beq pc 61) (some (.iload_n 2, 1, 0, 0, .null, [])) none) (cond (Nat.beq pc 60) (some (.aload_n 0, 1, 0, 0, .null, [])) none)) (cond (Nat.beq pc 19) (some (.lookupswitch 77 #[(98, 63), (99, 41), (107, 70), (114, 57)], 41, 0, 0, .null, [])) none)) (cond (Nat.ble 17 pc) (cond (Nat.ble 18 pc) (cond (Nat.beq pc 18) (some (.iaload, 1, 0, 0, .null, [])) none) (cond (Nat.beq pc 17) (some (.imul, 1, 0, 0, .null, [])) none)) (cond (Nat.beq pc 16) (some (.iload_n 1, 1, 0, 0, .null, [])) none)))) (cond (Nat.ble 8 pc) (cond (Nat.ble 11 pc) (cond (Nat.ble 12 pc) (cond (Nat.ble 15 pc) (cond (Nat.beq pc 15) (some (.iconst 3, 1, 0, 0, .int 3, [])) none) (cond (Nat.beq pc 12) (some (.getfield 29, 3, 4, 10, .null, [541])) none)) (cond (Nat.beq pc 11) (some (.aload_n 0, 1, 0, 0, .null, [])) none)) (cond (Nat.ble 9 pc) (cond (Nat.ble 10 pc) (cond (Nat.beq pc 10) (some (.istore_n 2, 1, 0, 0, .null, [])) none) (cond (Nat.beq pc 9) (some (.iaload, 1, 0, 0, .null, [])) none)) (cond (Nat.beq pc 8) (some (.iadd, 1, 0, 0, .null, [])) none))) (cond (Nat.ble 5 pc) (cond (Nat.ble 6 pc) (cond (Nat.ble 7 pc) (cond (Nat.beq pc 7) (some (.iconst 1, 1, 0, 0, .int 1, [])) none) (cond (Nat.beq pc 6) (some (.imul, 1, 0, 0, .null, [])) none)) (cond (Nat.beq pc 5) (some (.iload_n 1, 1, 0, 0, .null, [])) none)) (cond (Nat.ble 1 pc) (cond (Nat.ble 4 pc) (cond (Nat.beq pc 4) (some (.iconst 3, 1, 0, 0, .int 3, [])) none) (cond (Nat.beq pc 1) (some (.getfield 29, 3, 4, 10, .null, [541])) none)) (cond (Nat.beq pc 0) (some (.aload_n 0, 1, 0, 0, .null, [])) none)))))
/-- BraidHornsModel.doOrder(I)V -/
def xI_152 : Nat → Option xEn := fun pc => cond (Nat.ble 80 pc) (cond (Nat.ble 103 pc) (cond (Nat.ble 115 pc) (cond (Nat.ble 122 pc) (cond (Nat.ble 124 pc) (cond (Nat.ble 127 pc) (cond (Nat.beq pc 127) (some (.return_, 1, 0, 0, .null, [])) none) (cond (Nat.beq pc 124) (some (.invokevirtual 133, 3, 126, 1, .null, [713, 715, 31, 52])) none)) (cond (Nat.ble 123 pc) (cond (Nat.beq pc 123) (some (.iload_n 2, 1, 0, 0, .null, [])) none) (cond (Nat.beq pc 122) (some (.aload_n 0, 1, 0, 0, .null, [])) none))) (cond (Nat.ble 116 pc) (cond (Nat.ble 119 pc) (cond (Nat.beq pc 119) (some (.goto 8, 3, 127, 0, .null, [])) none) (cond (Nat.beq pc 116) (some (.invokevirtual 99, 3, 114, 1, .null, [649, 651, 21, 52])) none)) (cond (Nat.beq pc 115) (some (.iload_n 2, 1, 0, 0, .null, [])) none))) (cond (Nat.ble 108 pc) (cond (Nat.ble 111 pc) (cond (Nat.ble 114 pc) (cond (Nat.beq pc 114) (some (.aload_n 0, 1, 0, 0, .null, [])) none) (cond (Nat.beq pc 111) (some (.goto 16, 3, 127, 0, .null, [])) none)) (cond (Nat.beq pc 108) (some (.invokevirtual 130, 3, 124, 1, .null, [705, 707, 30, 52])) none)) (cond (Nat.ble 106 pc) (cond (Nat.ble 107 pc) (cond (Nat.beq pc 107) (some (.iload_n 2, 1, 0, 0, .null, [])) none) (cond (Nat.beq pc 106) (some (.aload_n 0, 1, 0, 0, .null, [])) none)) (cond (Nat.beq pc 103) (some (.goto 24, 3, 127, 0, .null, [])) none)))) (cond (Nat.ble 92 pc) (cond (Nat.ble 97 pc) (cond (Nat.ble 99 pc) (cond (Nat.ble 100 pc) (cond (Nat.beq pc 100) (some (.invokevirtual 32, 3, 86, 3, .null, [527, 529, 8, 52])) none) (cond (Nat.beq pc 99) (some (.iconst 1, 1, 0, 0, .int 1, [])) none)) (cond (Nat.ble 98 pc) (cond (Nat.beq pc 98) (some (.iconst 2, 1, 0, 0, .int 2, [])) none) (cond (Nat.beq pc 97) (some (.iload_n 2, 1, 0, 0, .null, [])) none))) (cond (Nat.ble 93 pc) (cond (Nat.ble 96 pc) (cond (Nat.beq pc 96) (some (.aload_n 0, 1, 0, 0, .null, [])) none) (cond (Nat.beq pc 93) (some (.goto 34, 3, 127, 0, .null, [])) none)) (cond (Nat.beq pc 92) (some (.pop, 1, 0, 0, .null, [])) none))) (cond (Nat.ble 87 pc) (cond (Nat.ble 88 pc) (cond (Nat.ble 89 pc) (cond (Nat.beq pc 89) (some (.invokevirtual 124, 3, 120, 1, .null, [684, 686, 27, 52])) none) (cond (Nat.beq pc 88) (some (.iload_n 2, 1, 0, 0, .null, [])) none)) (cond (Nat.beq pc 87) (some (.aload_n 0, 1, 0, 0, .null, [])) none)) (cond (Nat.ble 83 pc) (cond (Nat.ble 84 pc) (cond (Nat.beq pc 84) (some (.goto 43, 3, 127, 0, .null, [])) none) (cond (Nat.beq pc 83) (some (.pop, 1, 0, 0, .null, [])) none)) (cond (Nat.beq pc 80) (some (.invokevirtual 96, 3, 112, 2, .null, [637, 639, 19, 52])) none))))) (cond (Nat.ble 17 pc) (cond (Nat.ble 71 pc) (cond (Nat.ble 76 pc) (cond (Nat.ble 78 pc) (cond (Nat.ble 79 pc) (cond (Nat.beq pc 79) (some (.iaload, 1, 0, 0, .null, [])) none) (cond (Nat.beq pc 78) (some (.iadd, 1, 0, 0, .null, [])) none)) (cond (Nat.ble 77 pc) (cond (Nat.beq pc 77) (some (.iconst 2, 1, 0, 0, .int 2, [])) none) (cond (Nat.beq pc 76) (some (.imul, 1, 0, 0, .null, [])) none))) (cond (Nat.ble 74 pc) (cond (Nat.ble 75 pc) (cond (Nat.beq pc 75) (some (.iload_n 1, 1, 0, 0, .null, [])) none) (cond (Nat.beq pc 74) (some (.iconst 3, 1, 0, 0, .int 3, [])) none)) (cond (Nat.beq pc 71) (some (.getfield 29, 3, 4, 10, .null, [541])) none))) (cond (Nat.ble 68 pc) (cond (Nat.ble 69 pc) (cond (Nat.ble 70 pc) (cond (Nat.beq pc 70) (some (.aload_n 0, 1, 0, 0, .null, [])) none) (cond (Nat.beq pc 69) (some (.iload_n 2, 1, 0, 0, .null, [])) none)) (cond (Nat.beq pc 68) (some (.aload_n 0, 1, 0, 0, .null, [])) none)) (cond (Nat.ble 18 pc) (cond (Nat.ble 19 pc) (cond (Nat.beq pc 19) (some (.lookupswitch 103 #[(98, 77), (99, 49), (107, 87), (114, 68), (120, 95)], 49, 0, 0, .null, [])) none) (cond (Nat.beq pc 18) (some (.iaload, 1, 0, 0, .null, [])) none)) (cond (Nat.beq pc 17) (some (.imul, 1, 0, 0, .null, [])) none)))) (cond (Nat.ble 8 pc) (cond (Nat.ble 11 pc) (cond (Nat.ble 15 pc) (cond (Nat.ble 16 pc) (cond (Nat.beq pc 16) (some (.iload_n 1, 1, 0, 0, .null, [])) none) (cond (Nat.beq pc 15) (some (.iconst 3, 1, 0, 0, .int 3, [])) none)) (cond (Nat.ble 12 pc) (cond (Nat.beq pc 12) (some (.getfield 29, 3, 4, 10, .null, [541])) none) (cond (Nat.beq pc 11) (some (.aload_n 0, 1, 0, 0, .null, [])) none))) (cond (Nat.ble 9 pc) (cond (Nat.ble 10 pc) (cond (Nat.beq pc 10) (some (.istore_n 2, 1, 0, 0, .null, [])) none) (cond (Nat.beq pc 9) (some (.iaload, 1, 0, 0, .null, [])) none)) (cond (Nat.beq pc 8) (some (.iadd, 1, 0, 0, .null, [])) none))) (cond (Nat.ble 5 pc) (cond (Nat.ble 6 pc) (cond (Nat.ble 7 pc) (cond (Nat.beq pc 7) (some (.iconst 1, 1, 0, 0, .int 1, [])) none) (cond (Nat.beq pc 6) (some (.imul, 1, 0, 0, .null, [])) none)) (cond (Nat.beq pc 5) (some (.iload_n 1, 1, 0, 0, .null, [])) none)) (cond (Nat.ble 1 pc) (cond (Nat.ble 4 pc) (cond (Nat.beq pc 4) (some (.iconst 3, 1, 0, 0, .int 3, [])) none) (cond (Nat.beq pc 1) (some (.getfield 29, 3, 4, 10, .null, [541])) none)) (cond (Nat.beq pc 0) (some (.aload_n 0, 1, 0, 0, .null, [])) none)))))
/-- BraidHornsModel.carryOut()I -/
def xI_153 : Nat → Option xEn := fun pc => cond (Nat.ble 24 pc) (cond (Nat.ble 37 pc) (cond (Nat.ble 44 pc) (cond (Nat.ble 48 pc) (cond (Nat.ble 49 pc) (cond (Nat.beq pc 49) (some (.ireturn, 1, 0, 0, .null, [])) none) (cond (Nat.beq pc 48) (some (.iload_n 1, 1, 0, 0, .null, [])) none)) (cond (Nat.ble 45 pc) (cond (Nat.beq pc 45) (some (.putfield 139, 3, 4, 6, .null, [537])) none) (cond (Nat.beq pc 44) (some (.iconst 0, 1, 0, 0, .int 0, [])) none))) (cond (Nat.ble 40 pc) (cond (Nat.ble 43 pc) (cond (Nat.beq pc 43) (some (.aload_n 0, 1, 0, 0, .null, [])) none) (cond (Nat.beq pc 40) (some (.goto (-24), 3, 16, 0, .null, [])) none)) (cond (Nat.beq pc 37) (some (.iinc 1 1, 3, 0, 0, .int (1), [])) none))) (cond (Nat.ble 29 pc) (cond (Nat.ble 33 pc) (cond (Nat.ble 34 pc) (cond (Nat.beq pc 34) (some (.invokevirtual 189, 3, 152, 1, .null, [826, 828, 46, 52])) none) (cond (Nat.beq pc 33) (some (.iload_n 1, 1, 0, 0, .null, [])) none)) (cond (Nat.ble 32 pc) (cond (Nat.beq pc 32) (some (.aload_n 0, 1, 0, 0, .null, [])) none) (cond (Nat.beq pc 29) (some (.ifCond .ne 14, 3, 43, 0, .null, [])) none))) (cond (Nat.ble 25 pc) (cond (Nat.ble 26 pc) (cond (Nat.beq pc 26) (some (.invokevirtual 186, 3, 151, 1, .null, [822, 824, 45, 52])) none) (cond (Nat.beq pc 25) (some (.iload_n 1, 1, 0, 0, .null, [])) none)) (cond (Nat.beq pc 24) (some (.aload_n 0, 1, 0, 0, .null, [])) none)))) (cond (Nat.ble 11 pc) (cond (Nat.ble 16 pc) (cond (Nat.ble 18 pc) (cond (Nat.ble 21 pc) (cond (Nat.beq pc 21) (some (.if_icmp .ge 22, 3, 43, 0, .null, [])) none) (cond (Nat.beq pc 18) (some (.getfield 177, 3, 4, 11, .null, [542])) none)) (cond (Nat.ble 17 pc) (cond (Nat.beq pc 17) (some (.aload_n 0, 1, 0, 0, .null, [])) none) (cond (Nat.beq pc 16) (some (.iload_n 1, 1, 0, 0, .null, [])) none))) (cond (Nat.ble 14 pc) (cond (Nat.ble 15 pc) (cond (Nat.beq pc 15) (some (.istore_n 1, 1, 0, 0, .null, [])) none) (cond (Nat.beq pc 14) (some (.iconst 0, 1, 0, 0, .int 0, [])) none)) (cond (Nat.beq pc 11) (some (.invokevirtual 60, 3, 96, 0, .null, [598, 600, 12, 52])) none))) (cond (Nat.ble 7 pc) (cond (Nat.ble 9 pc) (cond (Nat.ble 10 pc) (cond (Nat.beq pc 10) (some (.aload_n 0, 1, 0, 0, .null, [])) none) (cond (Nat.beq pc 9) (some (.ireturn, 1, 0, 0, .null, [])) none)) (cond (Nat.beq pc 7) (some (.bipush (-3), 2, 0, 0, .int (-3), [])) none)) (cond (Nat.ble 1 pc) (cond (Nat.ble 4 pc) (cond (Nat.beq pc 4) (some (.ifCond .ne 6, 3, 10, 0, .null, [])) none) (cond (Nat.beq pc 1) (some (.invokevirtual 183, 3, 149, 0, .null, [798, 800, 40, 52])) none)) (cond (Nat.beq pc 0) (some (.aload_n 0, 1, 0, 0, .null, [])) none))))
/-- java/lang/Math.min(II)I -/
def xI_154 : Nat → Option xEn := fun pc => cond (Nat.ble 5 pc) (cond (Nat.ble 9 pc) (cond (Nat.ble 10 pc) (cond (Nat.beq pc 10) (some (.ireturn, 1, 0, 0, .null, [])) none) (cond (Nat.beq pc 9) (some (.iload_n 1, 1, 0, 0, .null, [])) none)) (cond (Nat.ble 6 pc) (cond (Nat.beq pc 6) (some (.goto 4, 3, 10, 0, .null, [])) none) (cond (Nat.beq pc 5) (some (.iload_n 0, 1, 0, 0, .null, [])) none))) (cond (Nat.ble 1 pc) (cond (Nat.ble 2 pc) (cond (Nat.beq pc 2) (some (.if_icmp .gt 7, 3, 9, 0, .null, [])) none) (cond (Nat.beq pc 1) (some (.iload_n 1, 1, 0, 0, .null, [])) none)) (cond (Nat.beq pc 0) (some (.iload_n 0, 1, 0, 0, .null, [])) none))
/-- BraidHornsLaw.law([I)Z -/
def xI_155 : Nat → Option xEn := fun pc => cond (Nat.ble 376 pc) (cond (Nat.ble 530 pc) (cond (Nat.ble 605 pc) (cond (Nat.ble 644 pc) (cond (Nat.ble 663 pc) (cond (Nat.ble 671 pc) (cond (Nat.ble 676 pc) (cond (Nat.ble 682 pc) (cond (Nat.ble 683 pc) (cond (Nat.beq pc 683) (some (.ireturn, 1, 0, 0, .null, [])) none) (cond (Nat.beq pc 682) (some (.iconst 1, 1, 0, 0, .int 1, [])) none)) (cond (Nat.ble 679 pc) (cond (Nat.beq pc 679) (some (.goto (-661), 3, 18, 0, .null, [])) none) (cond (Nat.beq pc 676) (some (.iinc 3 3, 3, 0, 0, .int (3), [])) none))) (cond (Nat.ble 674 pc) (cond (Nat.ble 675 pc) (cond (Nat.beq pc 675) (some (.ireturn, 1, 0, 0, .null, [])) none) (cond (Nat.beq pc 674) (some (.iconst 0, 1, 0, 0, .int 0, [])) none)) (cond (Nat.beq pc 671) (some (.if_icmp .eq 5, 3, 676, 0, .null, [])) none))) (cond (Nat.ble 666 pc) (cond (Nat.ble 667 pc) (cond (Nat.ble 668 pc) (cond (Nat.beq pc 668) (some (.invokevirtual 114, 3, 99, 1, .null, [594, 595, 596, 52])) none) (cond (Nat.beq pc 667) (some (.iaload, 1, 0, 0, .null, [])) none)) (cond (Nat.beq pc 666) (some (.iadd, 1, 0, 0, .null, [])) none)) (cond (Nat.ble 664 pc) (cond (Nat.ble 665 pc) (cond (Nat.beq pc 665) (some (.iconst 1, 1, 0, 0, .int 1, [])) none) (cond (Nat.beq pc 664) (some (.iload_n 3, 1, 0, 0, .null, [])) none)) (cond (Nat.beq pc 663) (some (.aload_n 0, 1, 0, 0, .null, [])) none)))) (cond (Nat.ble 654 pc) (cond (Nat.ble 657 pc) (cond (Nat.ble 659 pc) (cond (Nat.ble 662 pc) (cond (Nat.beq pc 662) (some (.aload_n 2, 1, 0, 0, .null, [])) none) (cond (Nat.beq pc 659) (some (.invokevirtual 111, 3, 85, 1, .null, [517, 518, 519, 48])) none)) (cond (Nat.ble 658 pc) (cond (Nat.beq pc 658) (some (.iaload, 1, 0, 0, .null, [])) none) (cond (Nat.beq pc 657) (some (.iadd, 1, 0, 0, .null, [])) none))) (cond (Nat.ble 655 pc) (cond (Nat.ble 656 pc) (cond (Nat.beq pc 656) (some (.iconst 1, 1, 0, 0, .int 1, [])) none) (cond (Nat.beq pc 655) (some (.iload_n 3, 1, 0, 0, .null, [])) none)) (cond (Nat.beq pc 654) (some (.aload_n 0, 1, 0, 0, .null, [])) none))) (cond (Nat.ble 651 pc) (cond (Nat.ble 652 pc) (cond (Nat.ble 653 pc) (cond (Nat.beq pc 653) (some (.aload_n 1, 1, 0, 0, .null, [])) none) (cond (Nat.beq pc 652) (some (.ireturn, 1, 0, 0, .null, [])) none)) (cond (Nat.beq pc 651) (some (.iconst 0, 1, 0, 0, .int 0, [])) none)) (cond (Nat.ble 645 pc) (cond (Nat.ble 648 pc) (cond (Nat.beq pc 648) (some (.if_icmp .eq 28, 3, 676, 0, .null, [])) none) (cond (Nat.beq pc 645) (some (.invokevirtual 110, 3, 98, 1, .null, [575, 576, 577, 52])) none)) (cond (Nat.beq pc 644) (some (.iaload, 1, 0, 0, .null, [])) none))))) (cond (Nat.ble 629 pc) (cond (Nat.ble 635 pc) (cond (Nat.ble 640 pc) (cond (Nat.ble 642 pc) (cond (Nat.ble 643 pc) (cond (Nat.beq pc 643) (some (.iadd, 1, 0, 0, .null, [])) none) (cond (Nat.beq pc 642) (some (.iconst 1, 1, 0, 0, .int 1, [])) none)) (cond (Nat.ble 641 pc) (cond (Nat.beq pc 641) (some (.iload_n 3, 1, 0, 0, .null, [])) none) (cond (Nat.beq pc 640) (some (.aload_n 0, 1, 0, 0, .null, [])) none))) (cond (Nat.ble 636 pc) (cond (Nat.ble 639 pc) (cond (Nat.beq pc 639) (some (.aload_n 2, 1, 0, 0, .null, [])) none) (cond (Nat.beq pc 636) (some (.invokevirtual 107, 3, 84, 1, .null, [503, 504, 505, 48])) none)) (cond (Nat.beq pc 635) (some (.iaload, 1, 0, 0, .null, [])) none))) (cond (Nat.ble 632 pc) (cond (Nat.ble 633 pc) (cond (Nat.ble 634 pc) (cond (Nat.beq pc 634) (some (.iadd, 1, 0, 0, .null, [])) none) (cond (Nat.beq pc 633) (some (.iconst 1, 1, 0, 0, .int 1, [])) none)) (cond (Nat.beq pc 632) (some (.iload_n 3, 1, 0, 0, .null, [])) none)) (cond (Nat.ble 630 pc) (cond (Nat.ble 631 pc) (cond (Nat.beq pc 631) (some (.aload_n 0, 1, 0, 0, .null, [])) none) (cond (Nat.beq pc 630) (some (.aload_n 1, 1, 0, 0, .null, [])) none)) (cond (Nat.beq pc 629) (some (.ireturn, 1, 0, 0, .null, [])) none)))) (cond (Nat.ble 617 pc) (cond (Nat.ble 622 pc) (cond (Nat.ble 625 pc) (cond (Nat.ble 628 pc) (cond (Nat.beq pc 628) (some (.iconst 0, 1, 0, 0, .int 0, [])) none) (cond (Nat.beq pc 625) (some (.if_icmp .eq 51, 3, 676, 0, .null, [])) none)) (cond (Nat.beq pc 622) (some (.invokevirtual 106, 3, 97, 0, .null, [568, 569, 570, 52])) none)) (cond (Nat.ble 618 pc) (cond (Nat.ble 621 pc) (cond (Nat.beq pc 621) (some (.aload_n 2, 1, 0, 0, .null, [])) none) (cond (Nat.beq pc 618) (some (.invokevirtual 103, 3, 83, 0, .null, [499, 500, 501, 48])) none)) (cond (Nat.beq pc 617) (some (.aload_n 1, 1, 0, 0, .null, [])) none))) (cond (Nat.ble 612 pc) (cond (Nat.ble 615 pc) (cond (Nat.ble 616 pc) (cond (Nat.beq pc 616) (some (.ireturn, 1, 0, 0, .null, [])) none) (cond (Nat.beq pc 615) (some (.iconst 0, 1, 0, 0, .int 0, [])) none)) (cond (Nat.beq pc 612) (some (.if_icmp .eq 64, 3, 676, 0, .null, [])) none)) (cond (Nat.ble 608 pc) (cond (Nat.ble 609 pc) (cond (Nat.beq pc 609) (some (.invokevirtual 102, 3, 153, 0, .null, [818, 819, 820, 52])) none) (cond (Nat.beq pc 608) (some (.aload_n 2, 1, 0, 0, .null, [])) none)) (cond (Nat.beq pc 605) (some (.invokevirtual 99, 3, 82, 0, .null, [469, 470, 471, 48])) none)))))) (cond (Nat.ble 561 pc) (cond (Nat.ble 582 pc) (cond (Nat.ble 592 pc) (cond (Nat.ble 599 pc) (cond (Nat.ble 603 pc) (cond (Nat.ble 604 pc) (cond (Nat.beq pc 604) (some (.aload_n 1, 1, 0, 0, .null, [])) none) (cond (Nat.beq pc 603) (some (.ireturn, 1, 0, 0, .null, [])) none)) (cond (Nat.ble 602 pc) (cond (Nat.beq pc 602) (some (.iconst 0, 1, 0, 0, .int 0, [])) none) (cond (Nat.beq pc 599) (some (.if_icmp .eq 77, 3, 676, 0, .null, [])) none))) (cond (Nat.ble 595 pc) (cond (Nat.ble 596 pc) (cond (Nat.beq pc 596) (some (.invokevirtual 98, 3, 150, 0, .null, [794, 795, 796, 52])) none) (cond (Nat.beq pc 595) (some (.aload_n 2, 1, 0, 0, .null, [])) none)) (cond (Nat.beq pc 592) (some (.invokevirtual 95, 3, 80, 0, .null, [452, 453, 454, 48])) none))) (cond (Nat.ble 589 pc) (cond (Nat.ble 590 pc) (cond (Nat.ble 591 pc) (cond (Nat.beq pc 591) (some (.aload_n 1, 1, 0, 0, .null, [])) none) (cond (Nat.beq pc 590) (some (.ireturn, 1, 0, 0, .null, [])) none)) (cond (Nat.beq pc 589) (some (.iconst 0, 1, 0, 0, .int 0, [])) none)) (cond (Nat.ble 583 pc) (cond (Nat.ble 586 pc) (cond (Nat.beq pc 586) (some (.if_icmp .eq 90, 3, 676, 0, .null, [])) none) (cond (Nat.beq pc 583) (some (.invokevirtual 94, 3, 144, 0, .null, [790, 791, 792, 52])) none)) (cond (Nat.beq pc 582) (some (.aload_n 2, 1, 0, 0, .null, [])) none)))) (cond (Nat.ble 569 pc) (cond (Nat.ble 576 pc) (cond (Nat.ble 578 pc) (cond (Nat.ble 579 pc) (cond (Nat.beq pc 579) (some (.invokevirtual 91, 3, 79, 0, .null, [444, 445, 446, 48])) none) (cond (Nat.beq pc 578) (some (.aload_n 1, 1, 0, 0, .null, [])) none)) (cond (Nat.ble 577 pc) (cond (Nat.beq pc 577) (some (.ireturn, 1, 0, 0, .null, [])) none) (cond (Nat.beq pc 576) (some (.iconst 0, 1, 0, 0, .int 0, [])) none))) (cond (Nat.ble 570 pc) (cond (Nat.ble 573 pc) (cond (Nat.beq pc 573) (some (.if_icmp .eq 103, 3, 676, 0, .null, [])) none) (cond (Nat.beq pc 570) (some (.invokevirtual 90, 3, 143, 1, .null, [785, 786, 787, 52])) none)) (cond (Nat.beq pc 569) (some (.lor, 1, 0, 0, .null, [])) none))) (cond (Nat.ble 564 pc) (cond (Nat.ble 565 pc) (cond (Nat.ble 568 pc) (cond (Nat.beq pc 568) (some (.land, 1, 0, 0, .null, [])) none) (cond (Nat.beq pc 565) (some (.ldc2_w 84, 3, 0, 0, .long (4294967295), [830])) none)) (cond (Nat.beq pc 564) (some (.i2l, 1, 0, 0, .null, [])) none)) (cond (Nat.ble 562 pc) (cond (Nat.ble 563 pc) (cond (Nat.beq pc 563) (some (.iaload, 1, 0, 0, .null, [])) none) (cond (Nat.beq pc 562) (some (.iadd, 1, 0, 0, .null, [])) none)) (cond (Nat.beq pc 561) (some (.iconst 2, 1, 0, 0, .int 2, [])) none))))) (cond (Nat.ble 545 pc) (cond (Nat.ble 553 pc) (cond (Nat.ble 556 pc) (cond (Nat.ble 559 pc) (cond (Nat.ble 560 pc) (cond (Nat.beq pc 560) (some (.iload_n 3, 1, 0, 0, .null, [])) none) (cond (Nat.beq pc 559) (some (.aload_n 0, 1, 0, 0, .null, [])) none)) (cond (Nat.ble 558 pc) (cond (Nat.beq pc 558) (some (.lshl, 1, 0, 0, .null, [])) none) (cond (Nat.beq pc 556) (some (.bipush 32, 2, 0, 0, .int 32, [])) none))) (cond (Nat.ble 554 pc) (cond (Nat.ble 555 pc) (cond (Nat.beq pc 555) (some (.i2l, 1, 0, 0, .null, [])) none) (cond (Nat.beq pc 554) (some (.iaload, 1, 0, 0, .null, [])) none)) (cond (Nat.beq pc 553) (some (.iadd, 1, 0, 0, .null, [])) none))) (cond (Nat.ble 550 pc) (cond (Nat.ble 551 pc) (cond (Nat.ble 552 pc) (cond (Nat.beq pc 552) (some (.iconst 1, 1, 0, 0, .int 1, [])) none) (cond (Nat.beq pc 551) (some (.iload_n 3, 1, 0, 0, .null, [])) none)) (cond (Nat.beq pc 550) (some (.aload_n 0, 1, 0, 0, .null, [])) none)) (cond (Nat.ble 546 pc) (cond (Nat.ble 549 pc) (cond (Nat.beq pc 549) (some (.aload_n 2, 1, 0, 0, .null, [])) none) (cond (Nat.beq pc 546) (some (.invokevirtual 86, 3, 78, 1, .null, [430, 431, 432, 48])) none)) (cond (Nat.beq pc 545) (some (.lor, 1, 0, 0, .null, [])) none)))) (cond (Nat.ble 537 pc) (cond (Nat.ble 540 pc) (cond (Nat.ble 541 pc) (cond (Nat.ble 544 pc) (cond (Nat.beq pc 544) (some (.land, 1, 0, 0, .null, [])) none) (cond (Nat.beq pc 541) (some (.ldc2_w 84, 3, 0, 0, .long (4294967295), [830])) none)) (cond (Nat.beq pc 540) (some (.i2l, 1, 0, 0, .null, [])) none)) (cond (Nat.ble 538 pc) (cond (Nat.ble 539 pc) (cond (Nat.beq pc 539) (some (.iaload, 1, 0, 0, .null, [])) none) (cond (Nat.beq pc 538) (some (.iadd, 1, 0, 0, .null, [])) none)) (cond (Nat.beq pc 537) (some (.iconst 2, 1, 0, 0, .int 2, [])) none))) (cond (Nat.ble 534 pc) (cond (Nat.ble 535 pc) (cond (Nat.ble 536 pc) (cond (Nat.beq pc 536) (some (.iload_n 3, 1, 0, 0, .null, [])) none) (cond (Nat.beq pc 535) (some (.aload_n 0, 1, 0, 0, .null, [])) none)) (cond (Nat.beq pc 534) (some (.lshl, 1, 0, 0, .null, [])) none)) (cond (Nat.ble 531 pc) (cond (Nat.ble 532 pc) (cond (Nat.beq pc 532) (some (.bipush 32, 2, 0, 0, .int 32, [])) none) (cond (Nat.beq pc 531) (some (.i2l, 1, 0, 0, .null, [])) none)) (cond (Nat.beq pc 530) (some (.iaload, 1, 0, 0, .null, [])) none))))))) (cond (Nat.ble 449 pc) (cond (Nat.ble 486 pc) (cond (Nat.ble 511 pc) (cond (Nat.ble 523 pc) (cond (Nat.ble 526 pc) (cond (Nat.ble 528 pc) (cond (Nat.ble 529 pc) (cond (Nat.beq pc 529) (some (.iadd, 1, 0, 0, .null, [])) none) (cond (Nat.beq pc 528) (some (.iconst 1, 1, 0, 0, .int 1, [])) none)) (cond (Nat.ble 527 pc) (cond (Nat.beq pc 527) (some (.iload_n 3, 1, 0, 0, .null, [])) none) (cond (Nat.beq pc 526) (some (.aload_n 0, 1, 0, 0, .null, [])) none))) (cond (Nat.ble 524 pc) (cond (Nat.ble 525 pc) (cond (Nat.beq pc 525) (some (.aload_n 1, 1, 0, 0, .null, [])) none) (cond (Nat.beq pc 524) (some (.ireturn, 1, 0, 0, .null, [])) none)) (cond (Nat.beq pc 523) (some (.iconst 0, 1, 0, 0, .int 0, [])) none))) (cond (Nat.ble 516 pc) (cond (Nat.ble 517 pc) (cond (Nat.ble 520 pc) (cond (Nat.beq pc 520) (some (.if_icmp .eq 156, 3, 676, 0, .null, [])) none) (cond (Nat.beq pc 517) (some (.invokevirtual 83, 3, 142, 0, .null, [777, 778, 779, 52])) none)) (cond (Nat.beq pc 516) (some (.aload_n 2, 1, 0, 0, .null, [])) none)) (cond (Nat.ble 512 pc) (cond (Nat.ble 513 pc) (cond (Nat.beq pc 513) (some (.invokevirtual 80, 3, 77, 0, .null, [425, 426, 427, 48])) none) (cond (Nat.beq pc 512) (some (.aload_n 1, 1, 0, 0, .null, [])) none)) (cond (Nat.beq pc 511) (some (.ireturn, 1, 0, 0, .null, [])) none)))) (cond (Nat.ble 498 pc) (cond (Nat.ble 503 pc) (cond (Nat.ble 507 pc) (cond (Nat.ble 510 pc) (cond (Nat.beq pc 510) (some (.iconst 0, 1, 0, 0, .int 0, [])) none) (cond (Nat.beq pc 507) (some (.if_icmp .eq 169, 3, 676, 0, .null, [])) none)) (cond (Nat.ble 504 pc) (cond (Nat.beq pc 504) (some (.invokevirtual 79, 3, 140, 0, .null, [765, 766, 767, 52])) none) (cond (Nat.beq pc 503) (some (.aload_n 2, 1, 0, 0, .null, [])) none))) (cond (Nat.ble 499 pc) (cond (Nat.ble 500 pc) (cond (Nat.beq pc 500) (some (.invokevirtual 76, 3, 76, 0, .null, [418, 419, 420, 48])) none) (cond (Nat.beq pc 499) (some (.aload_n 1, 1, 0, 0, .null, [])) none)) (cond (Nat.beq pc 498) (some (.ireturn, 1, 0, 0, .null, [])) none))) (cond (Nat.ble 491 pc) (cond (Nat.ble 494 pc) (cond (Nat.ble 497 pc) (cond (Nat.beq pc 497) (some (.iconst 0, 1, 0, 0, .int 0, [])) none) (cond (Nat.beq pc 494) (some (.if_icmp .eq 182, 3, 676, 0, .null, [])) none)) (cond (Nat.beq pc 491) (some (.invokevirtual 75, 3, 138, 0, .null, [761, 762, 763, 52])) none)) (cond (Nat.ble 487 pc) (cond (Nat.ble 490 pc) (cond (Nat.beq pc 490) (some (.aload_n 2, 1, 0, 0, .null, [])) none) (cond (Nat.beq pc 487) (some (.invokevirtual 72, 3, 75, 0, .null, [414, 415, 416, 48])) none)) (cond (Nat.beq pc 486) (some (.aload_n 1, 1, 0, 0, .null, [])) none))))) (cond (Nat.ble 463 pc) (cond (Nat.ble 473 pc) (cond (Nat.ble 478 pc) (cond (Nat.ble 484 pc) (cond (Nat.ble 485 pc) (cond (Nat.beq pc 485) (some (.ireturn, 1, 0, 0, .null, [])) none) (cond (Nat.beq pc 484) (some (.iconst 0, 1, 0, 0, .int 0, [])) none)) (cond (Nat.ble 481 pc) (cond (Nat.beq pc 481) (some (.if_icmp .eq 195, 3, 676, 0, .null, [])) none) (cond (Nat.beq pc 478) (some (.invokevirtual 71, 3, 137, 0, .null, [753, 754, 755, 52])) none))) (cond (Nat.ble 474 pc) (cond (Nat.ble 477 pc) (cond (Nat.beq pc 477) (some (.aload_n 2, 1, 0, 0, .null, [])) none) (cond (Nat.beq pc 474) (some (.invokevirtual 68, 3, 74, 0, .null, [405, 406, 407, 48])) none)) (cond (Nat.beq pc 473) (some (.aload_n 1, 1, 0, 0, .null, [])) none))) (cond (Nat.ble 468 pc) (cond (Nat.ble 471 pc) (cond (Nat.ble 472 pc) (cond (Nat.beq pc 472) (some (.ireturn, 1, 0, 0, .null, [])) none) (cond (Nat.beq pc 471) (some (.iconst 0, 1, 0, 0, .int 0, [])) none)) (cond (Nat.beq pc 468) (some (.if_icmp .eq 208, 3, 676, 0, .null, [])) none)) (cond (Nat.ble 464 pc) (cond (Nat.ble 465 pc) (cond (Nat.beq pc 465) (some (.invokevirtual 67, 3, 135, 1, .null, [737, 738, 739, 52])) none) (cond (Nat.beq pc 464) (some (.iaload, 1, 0, 0, .null, [])) none)) (cond (Nat.beq pc 463) (some (.iadd, 1, 0, 0, .null, [])) none)))) (cond (Nat.ble 455 pc) (cond (Nat.ble 460 pc) (cond (Nat.ble 461 pc) (cond (Nat.ble 462 pc) (cond (Nat.beq pc 462) (some (.iconst 1, 1, 0, 0, .int 1, [])) none) (cond (Nat.beq pc 461) (some (.iload_n 3, 1, 0, 0, .null, [])) none)) (cond (Nat.beq pc 460) (some (.aload_n 0, 1, 0, 0, .null, [])) none)) (cond (Nat.ble 456 pc) (cond (Nat.ble 459 pc) (cond (Nat.beq pc 459) (some (.aload_n 2, 1, 0, 0, .null, [])) none) (cond (Nat.beq pc 456) (some (.invokevirtual 64, 3, 73, 1, .null, [369, 370, 371, 48])) none)) (cond (Nat.beq pc 455) (some (.iaload, 1, 0, 0, .null, [])) none))) (cond (Nat.ble 452 pc) (cond (Nat.ble 453 pc) (cond (Nat.ble 454 pc) (cond (Nat.beq pc 454) (some (.iadd, 1, 0, 0, .null, [])) none) (cond (Nat.beq pc 453) (some (.iconst 1, 1, 0, 0, .int 1, [])) none)) (cond (Nat.beq pc 452) (some (.iload_n 3, 1, 0, 0, .null, [])) none)) (cond (Nat.ble 450 pc) (cond (Nat.ble 451 pc) (cond (Nat.beq pc 451) (some (.aload_n 0, 1, 0, 0, .null, [])) none) (cond (Nat.beq pc 450) (some (.aload_n 1, 1, 0, 0, .null, [])) none)) (cond (Nat.beq pc 449) (some (.ireturn, 1, 0, 0, .null, [])) none)))))) (cond (Nat.ble 409 pc) (cond (Nat.ble 426 pc) (cond (Nat.ble 436 pc) (cond (Nat.ble 441 pc) (cond (Nat.ble 445 pc) (cond (Nat.ble 448 pc) (cond (Nat.beq pc 448) (some (.iconst 0, 1, 0, 0, .int 0, [])) none) (cond (Nat.beq pc 445) (some (.if_icmp .eq 231, 3, 676, 0, .null, [])) none)) (cond (Nat.ble 442 pc) (cond (Nat.beq pc 442) (some (.invokevirtual 63, 3, 117, 0, .null, [653, 654, 655, 52])) none) (cond (Nat.beq pc 441) (some (.aload_n 2, 1, 0, 0, .null, [])) none))) (cond (Nat.ble 437 pc) (cond (Nat.ble 438 pc) (cond (Nat.beq pc 438) (some (.invokevirtual 59, 3, 72, 0, .null, [364, 365, 366, 48])) none) (cond (Nat.beq pc 437) (some (.aload_n 1, 1, 0, 0, .null, [])) none)) (cond (Nat.beq pc 436) (some (.ireturn, 1, 0, 0, .null, [])) none))) (cond (Nat.ble 429 pc) (cond (Nat.ble 432 pc) (cond (Nat.ble 435 pc) (cond (Nat.beq pc 435) (some (.iconst 0, 1, 0, 0, .int 0, [])) none) (cond (Nat.beq pc 432) (some (.if_icmp .eq 244, 3, 676, 0, .null, [])) none)) (cond (Nat.beq pc 429) (some (.invokevirtual 58, 3, 132, 1, .null, [729, 730, 731, 52])) none)) (cond (Nat.ble 427 pc) (cond (Nat.ble 428 pc) (cond (Nat.beq pc 428) (some (.iaload, 1, 0, 0, .null, [])) none) (cond (Nat.beq pc 427) (some (.iadd, 1, 0, 0, .null, [])) none)) (cond (Nat.beq pc 426) (some (.iconst 1, 1, 0, 0, .int 1, [])) none)))) (cond (Nat.ble 417 pc) (cond (Nat.ble 420 pc) (cond (Nat.ble 424 pc) (cond (Nat.ble 425 pc) (cond (Nat.beq pc 425) (some (.iload_n 3, 1, 0, 0, .null, [])) none) (cond (Nat.beq pc 424) (some (.aload_n 0, 1, 0, 0, .null, [])) none)) (cond (Nat.ble 423 pc) (cond (Nat.beq pc 423) (some (.aload_n 2, 1, 0, 0, .null, [])) none) (cond (Nat.beq pc 420) (some (.invokevirtual 55, 3, 71, 1, .null, [352, 353, 354, 48])) none))) (cond (Nat.ble 418 pc) (cond (Nat.ble 419 pc) (cond (Nat.beq pc 419) (some (.iaload, 1, 0, 0, .null, [])) none) (cond (Nat.beq pc 418) (some (.iadd, 1, 0, 0, .null, [])) none)) (cond (Nat.beq pc 417) (some (.iconst 1, 1, 0, 0, .int 1, [])) none))) (cond (Nat.ble 414 pc) (cond (Nat.ble 415 pc) (cond (Nat.ble 416 pc) (cond (Nat.beq pc 416) (some (.iload_n 3, 1, 0, 0, .null, [])) none) (cond (Nat.beq pc 415) (some (.aload_n 0, 1, 0, 0, .null, [])) none)) (cond (Nat.beq pc 414) (some (.aload_n 1, 1, 0, 0, .null, [])) none)) (cond (Nat.ble 412 pc) (cond (Nat.ble 413 pc) (cond (Nat.beq pc 413) (some (.ireturn, 1, 0, 0, .null, [])) none) (cond (Nat.beq pc 412) (some (.iconst 0, 1, 0, 0, .int 0, [])) none)) (cond (Nat.beq pc 409) (some (.if_icmp .eq 267, 3, 676, 0, .null, [])) none))))) (cond (Nat.ble 392 pc) (cond (Nat.ble 400 pc) (cond (Nat.ble 403 pc) (cond (Nat.ble 405 pc) (cond (Nat.ble 406 pc) (cond (Nat.beq pc 406) (some (.invokevirtual 54, 3, 130, 1, .null, [725, 726, 727, 52])) none) (cond (Nat.beq pc 405) (some (.iaload, 1, 0, 0, .null, [])) none)) (cond (Nat.ble 404 pc) (cond (Nat.beq pc 404) (some (.iadd, 1, 0, 0, .null, [])) none) (cond (Nat.beq pc 403) (some (.iconst 1, 1, 0, 0, .int 1, [])) none))) (cond (Nat.ble 401 pc) (cond (Nat.ble 402 pc) (cond (Nat.beq pc 402) (some (.iload_n 3, 1, 0, 0, .null, [])) none) (cond (Nat.beq pc 401) (some (.aload_n 0, 1, 0, 0, .null, [])) none)) (cond (Nat.beq pc 400) (some (.aload_n 2, 1, 0, 0, .null, [])) none))) (cond (Nat.ble 395 pc) (cond (Nat.ble 396 pc) (cond (Nat.ble 397 pc) (cond (Nat.beq pc 397) (some (.invokevirtual 51, 3, 70, 1, .null, [343, 344, 345, 48])) none) (cond (Nat.beq pc 396) (some (.iaload, 1, 0, 0, .null, [])) none)) (cond (Nat.beq pc 395) (some (.iadd, 1, 0, 0, .null, [])) none)) (cond (Nat.ble 393 pc) (cond (Nat.ble 394 pc) (cond (Nat.beq pc 394) (some (.iconst 1, 1, 0, 0, .int 1, [])) none) (cond (Nat.beq pc 393) (some (.iload_n 3, 1, 0, 0, .null, [])) none)) (cond (Nat.beq pc 392) (some (.aload_n 0, 1, 0, 0, .null, [])) none)))) (cond (Nat.ble 382 pc) (cond (Nat.ble 389 pc) (cond (Nat.ble 390 pc) (cond (Nat.ble 391 pc) (cond (Nat.beq pc 391) (some (.aload_n 1, 1, 0, 0, .null, [])) none) (cond (Nat.beq pc 390) (some (.ireturn, 1, 0, 0, .null, [])) none)) (cond (Nat.beq pc 389) (some (.iconst 0, 1, 0, 0, .int 0, [])) none)) (cond (Nat.ble 383 pc) (cond (Nat.ble 386 pc) (cond (Nat.beq pc 386) (some (.if_icmp .eq 290, 3, 676, 0, .null, [])) none) (cond (Nat.beq pc 383) (some (.invokevirtual 50, 3, 129, 2, .null, [721, 722, 723, 52])) none)) (cond (Nat.beq pc 382) (some (.iaload, 1, 0, 0, .null, [])) none))) (cond (Nat.ble 379 pc) (cond (Nat.ble 380 pc) (cond (Nat.ble 381 pc) (cond (Nat.beq pc 381) (some (.iadd, 1, 0, 0, .null, [])) none) (cond (Nat.beq pc 380) (some (.iconst 2, 1, 0, 0, .int 2, [])) none)) (cond (Nat.beq pc 379) (some (.iload_n 3, 1, 0, 0, .null, [])) none)) (cond (Nat.ble 377 pc) (cond (Nat.ble 378 pc) (cond (Nat.beq pc 378) (some (.aload_n 0, 1, 0, 0, .null, [])) none) (cond (Nat.beq pc 377) (some (.iaload, 1, 0, 0, .null, [])) none)) (cond (Nat.beq pc 376) (some (.iadd, 1, 0, 0, .null, [])) none)))))))) (cond (Nat.ble 244 pc) (cond (Nat.ble 313 pc) (cond (Nat.ble 344 pc) (cond (Nat.ble 361 pc) (cond (Nat.ble 367 pc) (cond (Nat.ble 372 pc) (cond (Nat.ble 374 pc) (cond (Nat.ble 375 pc) (cond (Nat.beq pc 375) (some (.iconst 1, 1, 0, 0, .int 1, [])) none) (cond (Nat.beq pc 374) (some (.iload_n 3, 1, 0, 0, .null, [])) none)) (cond (Nat.ble 373 pc) (cond (Nat.beq pc 373) (some (.aload_n 0, 1, 0, 0, .null, [])) none) (cond (Nat.beq pc 372) (some (.aload_n 2, 1, 0, 0, .null, [])) none))) (cond (Nat.ble 368 pc) (cond (Nat.ble 369 pc) (cond (Nat.beq pc 369) (some (.invokevirtual 47, 3, 69, 2, .null, [334, 335, 336, 48])) none) (cond (Nat.beq pc 368) (some (.iaload, 1, 0, 0, .null, [])) none)) (cond (Nat.beq pc 367) (some (.iadd, 1, 0, 0, .null, [])) none))) (cond (Nat.ble 364 pc) (cond (Nat.ble 365 pc) (cond (Nat.ble 366 pc) (cond (Nat.beq pc 366) (some (.iconst 2, 1, 0, 0, .int 2, [])) none) (cond (Nat.beq pc 365) (some (.iload_n 3, 1, 0, 0, .null, [])) none)) (cond (Nat.beq pc 364) (some (.aload_n 0, 1, 0, 0, .null, [])) none)) (cond (Nat.ble 362 pc) (cond (Nat.ble 363 pc) (cond (Nat.beq pc 363) (some (.iaload, 1, 0, 0, .null, [])) none) (cond (Nat.beq pc 362) (some (.iadd, 1, 0, 0, .null, [])) none)) (cond (Nat.beq pc 361) (some (.iconst 1, 1, 0, 0, .int 1, [])) none)))) (cond (Nat.ble 350 pc) (cond (Nat.ble 357 pc) (cond (Nat.ble 359 pc) (cond (Nat.ble 360 pc) (cond (Nat.beq pc 360) (some (.iload_n 3, 1, 0, 0, .null, [])) none) (cond (Nat.beq pc 359) (some (.aload_n 0, 1, 0, 0, .null, [])) none)) (cond (Nat.ble 358 pc) (cond (Nat.beq pc 358) (some (.aload_n 1, 1, 0, 0, .null, [])) none) (cond (Nat.beq pc 357) (some (.ireturn, 1, 0, 0, .null, [])) none))) (cond (Nat.ble 353 pc) (cond (Nat.ble 356 pc) (cond (Nat.beq pc 356) (some (.iconst 0, 1, 0, 0, .int 0, [])) none) (cond (Nat.beq pc 353) (some (.if_icmp .eq 323, 3, 676, 0, .null, [])) none)) (cond (Nat.beq pc 350) (some (.invokevirtual 46, 3, 128, 2, .null, [717, 718, 719, 52])) none))) (cond (Nat.ble 347 pc) (cond (Nat.ble 348 pc) (cond (Nat.ble 349 pc) (cond (Nat.beq pc 349) (some (.iaload, 1, 0, 0, .null, [])) none) (cond (Nat.beq pc 348) (some (.iadd, 1, 0, 0, .null, [])) none)) (cond (Nat.beq pc 347) (some (.iconst 2, 1, 0, 0, .int 2, [])) none)) (cond (Nat.ble 345 pc) (cond (Nat.ble 346 pc) (cond (Nat.beq pc 346) (some (.iload_n 3, 1, 0, 0, .null, [])) none) (cond (Nat.beq pc 345) (some (.aload_n 0, 1, 0, 0, .null, [])) none)) (cond (Nat.beq pc 344) (some (.iaload, 1, 0, 0, .null, [])) none))))) (cond (Nat.ble 329 pc) (cond (Nat.ble 335 pc) (cond (Nat.ble 340 pc) (cond (Nat.ble 342 pc) (cond (Nat.ble 343 pc) (cond (Nat.beq pc 343) (some (.iadd, 1, 0, 0, .null, [])) none) (cond (Nat.beq pc 342) (some (.iconst 1, 1, 0, 0, .int 1, [])) none)) (cond (Nat.ble 341 pc) (cond (Nat.beq pc 341) (some (.iload_n 3, 1, 0, 0, .null, [])) none) (cond (Nat.beq pc 340) (some (.aload_n 0, 1, 0, 0, .null, [])) none))) (cond (Nat.ble 336 pc) (cond (Nat.ble 339 pc) (cond (Nat.beq pc 339) (some (.aload_n 2, 1, 0, 0, .null, [])) none) (cond (Nat.beq pc 336) (some (.invokevirtual 43, 3, 68, 2, .null, [322, 323, 324, 48])) none)) (cond (Nat.beq pc 335) (some (.iaload, 1, 0, 0, .null, [])) none))) (cond (Nat.ble 332 pc) (cond (Nat.ble 333 pc) (cond (Nat.ble 334 pc) (cond (Nat.beq pc 334) (some (.iadd, 1, 0, 0, .null, [])) none) (cond (Nat.beq pc 333) (some (.iconst 2, 1, 0, 0, .int 2, [])) none)) (cond (Nat.beq pc 332) (some (.iload_n 3, 1, 0, 0, .null, [])) none)) (cond (Nat.ble 330 pc) (cond (Nat.ble 331 pc) (cond (Nat.beq pc 331) (some (.aload_n 0, 1, 0, 0, .null, [])) none) (cond (Nat.beq pc 330) (some (.iaload, 1, 0, 0, .null, [])) none)) (cond (Nat.beq pc 329) (some (.iadd, 1, 0, 0, .null, [])) none)))) (cond (Nat.ble 323 pc) (cond (Nat.ble 326 pc) (cond (Nat.ble 327 pc) (cond (Nat.ble 328 pc) (cond (Nat.beq pc 328) (some (.iconst 1, 1, 0, 0, .int 1, [])) none) (cond (Nat.beq pc 327) (some (.iload_n 3, 1, 0, 0, .null, [])) none)) (cond (Nat.beq pc 326) (some (.aload_n 0, 1, 0, 0, .null, [])) none)) (cond (Nat.ble 324 pc) (cond (Nat.ble 325 pc) (cond (Nat.beq pc 325) (some (.aload_n 1, 1, 0, 0, .null, [])) none) (cond (Nat.beq pc 324) (some (.ireturn, 1, 0, 0, .null, [])) none)) (cond (Nat.beq pc 323) (some (.iconst 0, 1, 0, 0, .int 0, [])) none))) (cond (Nat.ble 316 pc) (cond (Nat.ble 317 pc) (cond (Nat.ble 320 pc) (cond (Nat.beq pc 320) (some (.if_icmp .eq 356, 3, 676, 0, .null, [])) none) (cond (Nat.beq pc 317) (some (.invokevirtual 42, 3, 127, 1, .null, [709, 710, 711, 52])) none)) (cond (Nat.beq pc 316) (some (.iaload, 1, 0, 0, .null, [])) none)) (cond (Nat.ble 314 pc) (cond (Nat.ble 315 pc) (cond (Nat.beq pc 315) (some (.iadd, 1, 0, 0, .null, [])) none) (cond (Nat.beq pc 314) (some (.iconst 1, 1, 0, 0, .int 1, [])) none)) (cond (Nat.beq pc 313) (some (.iload_n 3, 1, 0, 0, .null, [])) none)))))) (cond (Nat.ble 279 pc) (cond (Nat.ble 294 pc) (cond (Nat.ble 304 pc) (cond (Nat.ble 307 pc) (cond (Nat.ble 311 pc) (cond (Nat.ble 312 pc) (cond (Nat.beq pc 312) (some (.aload_n 0, 1, 0, 0, .null, [])) none) (cond (Nat.beq pc 311) (some (.aload_n 2, 1, 0, 0, .null, [])) none)) (cond (Nat.ble 308 pc) (cond (Nat.beq pc 308) (some (.invokevirtual 39, 3, 67, 1, .null, [314, 315, 316, 48])) none) (cond (Nat.beq pc 307) (some (.iaload, 1, 0, 0, .null, [])) none))) (cond (Nat.ble 305 pc) (cond (Nat.ble 306 pc) (cond (Nat.beq pc 306) (some (.iadd, 1, 0, 0, .null, [])) none) (cond (Nat.beq pc 305) (some (.iconst 1, 1, 0, 0, .int 1, [])) none)) (cond (Nat.beq pc 304) (some (.iload_n 3, 1, 0, 0, .null, [])) none))) (cond (Nat.ble 301 pc) (cond (Nat.ble 302 pc) (cond (Nat.ble 303 pc) (cond (Nat.beq pc 303) (some (.aload_n 0, 1, 0, 0, .null, [])) none) (cond (Nat.beq pc 302) (some (.aload_n 1, 1, 0, 0, .null, [])) none)) (cond (Nat.beq pc 301) (some (.ireturn, 1, 0, 0, .null, [])) none)) (cond (Nat.ble 297 pc) (cond (Nat.ble 300 pc) (cond (Nat.beq pc 300) (some (.iconst 0, 1, 0, 0, .int 0, [])) none) (cond (Nat.beq pc 297) (some (.if_icmp .eq 379, 3, 676, 0, .null, [])) none)) (cond (Nat.beq pc 294) (some (.invokevirtual 38, 3, 125, 1, .null, [701, 702, 703, 52])) none)))) (cond (Nat.ble 285 pc) (cond (Nat.ble 290 pc) (cond (Nat.ble 292 pc) (cond (Nat.ble 293 pc) (cond (Nat.beq pc 293) (some (.iaload, 1, 0, 0, .null, [])) none) (cond (Nat.beq pc 292) (some (.iadd, 1, 0, 0, .null, [])) none)) (cond (Nat.ble 291 pc) (cond (Nat.beq pc 291) (some (.iconst 1, 1, 0, 0, .int 1, [])) none) (cond (Nat.beq pc 290) (some (.iload_n 3, 1, 0, 0, .null, [])) none))) (cond (Nat.ble 288 pc) (cond (Nat.ble 289 pc) (cond (Nat.beq pc 289) (some (.aload_n 0, 1, 0, 0, .null, [])) none) (cond (Nat.beq pc 288) (some (.aload_n 2, 1, 0, 0, .null, [])) none)) (cond (Nat.beq pc 285) (some (.invokevirtual 35, 3, 66, 1, .null, [306, 307, 308, 48])) none))) (cond (Nat.ble 282 pc) (cond (Nat.ble 283 pc) (cond (Nat.ble 284 pc) (cond (Nat.beq pc 284) (some (.iaload, 1, 0, 0, .null, [])) none) (cond (Nat.beq pc 283) (some (.iadd, 1, 0, 0, .null, [])) none)) (cond (Nat.beq pc 282) (some (.iconst 1, 1, 0, 0, .int 1, [])) none)) (cond (Nat.ble 280 pc) (cond (Nat.ble 281 pc) (cond (Nat.beq pc 281) (some (.iload_n 3, 1, 0, 0, .null, [])) none) (cond (Nat.beq pc 280) (some (.aload_n 0, 1, 0, 0, .null, [])) none)) (cond (Nat.beq pc 279) (some (.aload_n 1, 1, 0, 0, .null, [])) none))))) (cond (Nat.ble 260 pc) (cond (Nat.ble 268 pc) (cond (Nat.ble 271 pc) (cond (Nat.ble 277 pc) (cond (Nat.ble 278 pc) (cond (Nat.beq pc 278) (some (.ireturn, 1, 0, 0, .null, [])) none) (cond (Nat.beq pc 277) (some (.iconst 0, 1, 0, 0, .int 0, [])) none)) (cond (Nat.ble 274 pc) (cond (Nat.beq pc 274) (some (.if_icmp .eq 402, 3, 676, 0, .null, [])) none) (cond (Nat.beq pc 271) (some (.invokevirtual 34, 3, 123, 1, .null, [693, 694, 695, 52])) none))) (cond (Nat.ble 269 pc) (cond (Nat.ble 270 pc) (cond (Nat.beq pc 270) (some (.iaload, 1, 0, 0, .null, [])) none) (cond (Nat.beq pc 269) (some (.iadd, 1, 0, 0, .null, [])) none)) (cond (Nat.beq pc 268) (some (.iconst 1, 1, 0, 0, .int 1, [])) none))) (cond (Nat.ble 265 pc) (cond (Nat.ble 266 pc) (cond (Nat.ble 267 pc) (cond (Nat.beq pc 267) (some (.iload_n 3, 1, 0, 0, .null, [])) none) (cond (Nat.beq pc 266) (some (.aload_n 0, 1, 0, 0, .null, [])) none)) (cond (Nat.beq pc 265) (some (.aload_n 2, 1, 0, 0, .null, [])) none)) (cond (Nat.ble 261 pc) (cond (Nat.ble 262 pc) (cond (Nat.beq pc 262) (some (.invokevirtual 31, 3, 65, 1, .null, [298, 299, 300, 48])) none) (cond (Nat.beq pc 261) (some (.iaload, 1, 0, 0, .null, [])) none)) (cond (Nat.beq pc 260) (some (.iadd, 1, 0, 0, .null, [])) none)))) (cond (Nat.ble 254 pc) (cond (Nat.ble 257 pc) (cond (Nat.ble 258 pc) (cond (Nat.ble 259 pc) (cond (Nat.beq pc 259) (some (.iconst 1, 1, 0, 0, .int 1, [])) none) (cond (Nat.beq pc 258) (some (.iload_n 3, 1, 0, 0, .null, [])) none)) (cond (Nat.beq pc 257) (some (.aload_n 0, 1, 0, 0, .null, [])) none)) (cond (Nat.ble 255 pc) (cond (Nat.ble 256 pc) (cond (Nat.beq pc 256) (some (.aload_n 1, 1, 0, 0, .null, [])) none) (cond (Nat.beq pc 255) (some (.ireturn, 1, 0, 0, .null, [])) none)) (cond (Nat.beq pc 254) (some (.iconst 0, 1, 0, 0, .int 0, [])) none))) (cond (Nat.ble 247 pc) (cond (Nat.ble 248 pc) (cond (Nat.ble 251 pc) (cond (Nat.beq pc 251) (some (.if_icmp .eq 425, 3, 676, 0, .null, [])) none) (cond (Nat.beq pc 248) (some (.invokevirtual 30, 3, 121, 1, .null, [676, 677, 678, 52])) none)) (cond (Nat.beq pc 247) (some (.iaload, 1, 0, 0, .null, [])) none)) (cond (Nat.ble 245 pc) (cond (Nat.ble 246 pc) (cond (Nat.beq pc 246) (some (.iadd, 1, 0, 0, .null, [])) none) (cond (Nat.beq pc 245) (some (.iconst 1, 1, 0, 0, .int 1, [])) none)) (cond (Nat.beq pc 244) (some (.iload_n 3, 1, 0, 0, .null, [])) none))))))) (cond (Nat.ble 179 pc) (cond (Nat.ble 210 pc) (cond (Nat.ble 225 pc) (cond (Nat.ble 235 pc) (cond (Nat.ble 238 pc) (cond (Nat.ble 242 pc) (cond (Nat.ble 243 pc) (cond (Nat.beq pc 243) (some (.aload_n 0, 1, 0, 0, .null, [])) none) (cond (Nat.beq pc 242) (some (.aload_n 2, 1, 0, 0, .null, [])) none)) (cond (Nat.ble 239 pc) (cond (Nat.beq pc 239) (some (.invokevirtual 27, 3, 64, 1, .null, [247, 248, 249, 48])) none) (cond (Nat.beq pc 238) (some (.iaload, 1, 0, 0, .null, [])) none))) (cond (Nat.ble 236 pc) (cond (Nat.ble 237 pc) (cond (Nat.beq pc 237) (some (.iadd, 1, 0, 0, .null, [])) none) (cond (Nat.beq pc 236) (some (.iconst 1, 1, 0, 0, .int 1, [])) none)) (cond (Nat.beq pc 235) (some (.iload_n 3, 1, 0, 0, .null, [])) none))) (cond (Nat.ble 232 pc) (cond (Nat.ble 233 pc) (cond (Nat.ble 234 pc) (cond (Nat.beq pc 234) (some (.aload_n 0, 1, 0, 0, .null, [])) none) (cond (Nat.beq pc 233) (some (.aload_n 1, 1, 0, 0, .null, [])) none)) (cond (Nat.beq pc 232) (some (.ireturn, 1, 0, 0, .null, [])) none)) (cond (Nat.ble 228 pc) (cond (Nat.ble 231 pc) (cond (Nat.beq pc 231) (some (.iconst 0, 1, 0, 0, .int 0, [])) none) (cond (Nat.beq pc 228) (some (.if_icmp .eq 448, 3, 676, 0, .null, [])) none)) (cond (Nat.beq pc 225) (some (.invokevirtual 26, 3, 115, 1, .null, [645, 646, 647, 52])) none)))) (cond (Nat.ble 216 pc) (cond (Nat.ble 221 pc) (cond (Nat.ble 223 pc) (cond (Nat.ble 224 pc) (cond (Nat.beq pc 224) (some (.iaload, 1, 0, 0, .null, [])) none) (cond (Nat.beq pc 223) (some (.iadd, 1, 0, 0, .null, [])) none)) (cond (Nat.ble 222 pc) (cond (Nat.beq pc 222) (some (.iconst 1, 1, 0, 0, .int 1, [])) none) (cond (Nat.beq pc 221) (some (.iload_n 3, 1, 0, 0, .null, [])) none))) (cond (Nat.ble 219 pc) (cond (Nat.ble 220 pc) (cond (Nat.beq pc 220) (some (.aload_n 0, 1, 0, 0, .null, [])) none) (cond (Nat.beq pc 219) (some (.aload_n 2, 1, 0, 0, .null, [])) none)) (cond (Nat.beq pc 216) (some (.invokevirtual 22, 3, 63, 1, .null, [235, 236, 237, 48])) none))) (cond (Nat.ble 213 pc) (cond (Nat.ble 214 pc) (cond (Nat.ble 215 pc) (cond (Nat.beq pc 215) (some (.iaload, 1, 0, 0, .null, [])) none) (cond (Nat.beq pc 214) (some (.iadd, 1, 0, 0, .null, [])) none)) (cond (Nat.beq pc 213) (some (.iconst 1, 1, 0, 0, .int 1, [])) none)) (cond (Nat.ble 211 pc) (cond (Nat.ble 212 pc) (cond (Nat.beq pc 212) (some (.iload_n 3, 1, 0, 0, .null, [])) none) (cond (Nat.beq pc 211) (some (.aload_n 0, 1, 0, 0, .null, [])) none)) (cond (Nat.beq pc 210) (some (.aload_n 1, 1, 0, 0, .null, [])) none))))) (cond (Nat.ble 193 pc) (cond (Nat.ble 199 pc) (cond (Nat.ble 202 pc) (cond (Nat.ble 208 pc) (cond (Nat.ble 209 pc) (cond (Nat.beq pc 209) (some (.ireturn, 1, 0, 0, .null, [])) none) (cond (Nat.beq pc 208) (some (.iconst 0, 1, 0, 0, .int 0, [])) none)) (cond (Nat.ble 205 pc) (cond (Nat.beq pc 205) (some (.if_icmp .eq 471, 3, 676, 0, .null, [])) none) (cond (Nat.beq pc 202) (some (.invokevirtual 21, 3, 113, 2, .null, [609, 610, 611, 52])) none))) (cond (Nat.ble 200 pc) (cond (Nat.ble 201 pc) (cond (Nat.beq pc 201) (some (.iaload, 1, 0, 0, .null, [])) none) (cond (Nat.beq pc 200) (some (.iadd, 1, 0, 0, .null, [])) none)) (cond (Nat.beq pc 199) (some (.iconst 2, 1, 0, 0, .int 2, [])) none))) (cond (Nat.ble 196 pc) (cond (Nat.ble 197 pc) (cond (Nat.ble 198 pc) (cond (Nat.beq pc 198) (some (.iload_n 3, 1, 0, 0, .null, [])) none) (cond (Nat.beq pc 197) (some (.aload_n 0, 1, 0, 0, .null, [])) none)) (cond (Nat.beq pc 196) (some (.iaload, 1, 0, 0, .null, [])) none)) (cond (Nat.ble 194 pc) (cond (Nat.ble 195 pc) (cond (Nat.beq pc 195) (some (.iadd, 1, 0, 0, .null, [])) none) (cond (Nat.beq pc 194) (some (.iconst 1, 1, 0, 0, .int 1, [])) none)) (cond (Nat.beq pc 193) (some (.iload_n 3, 1, 0, 0, .null, [])) none)))) (cond (Nat.ble 185 pc) (cond (Nat.ble 188 pc) (cond (Nat.ble 191 pc) (cond (Nat.ble 192 pc) (cond (Nat.beq pc 192) (some (.aload_n 0, 1, 0, 0, .null, [])) none) (cond (Nat.beq pc 191) (some (.aload_n 2, 1, 0, 0, .null, [])) none)) (cond (Nat.beq pc 188) (some (.invokevirtual 18, 3, 62, 2, .null, [205, 206, 207, 48])) none)) (cond (Nat.ble 186 pc) (cond (Nat.ble 187 pc) (cond (Nat.beq pc 187) (some (.iaload, 1, 0, 0, .null, [])) none) (cond (Nat.beq pc 186) (some (.iadd, 1, 0, 0, .null, [])) none)) (cond (Nat.beq pc 185) (some (.iconst 2, 1, 0, 0, .int 2, [])) none))) (cond (Nat.ble 182 pc) (cond (Nat.ble 183 pc) (cond (Nat.ble 184 pc) (cond (Nat.beq pc 184) (some (.iload_n 3, 1, 0, 0, .null, [])) none) (cond (Nat.beq pc 183) (some (.aload_n 0, 1, 0, 0, .null, [])) none)) (cond (Nat.beq pc 182) (some (.iaload, 1, 0, 0, .null, [])) none)) (cond (Nat.ble 180 pc) (cond (Nat.ble 181 pc) (cond (Nat.beq pc 181) (some (.iadd, 1, 0, 0, .null, [])) none) (cond (Nat.beq pc 180) (some (.iconst 1, 1, 0, 0, .int 1, [])) none)) (cond (Nat.beq pc 179) (some (.iload_n 3, 1, 0, 0, .null, [])) none)))))) (cond (Nat.ble 147 pc) (cond (Nat.ble 162 pc) (cond (Nat.ble 168 pc) (cond (Nat.ble 175 pc) (cond (Nat.ble 177 pc) (cond (Nat.ble 178 pc) (cond (Nat.beq pc 178) (some (.aload_n 0, 1, 0, 0, .null, [])) none) (cond (Nat.beq pc 177) (some (.aload_n 1, 1, 0, 0, .null, [])) none)) (cond (Nat.ble 176 pc) (cond (Nat.beq pc 176) (some (.ireturn, 1, 0, 0, .null, [])) none) (cond (Nat.beq pc 175) (some (.iconst 0, 1, 0, 0, .int 0, [])) none))) (cond (Nat.ble 169 pc) (cond (Nat.ble 172 pc) (cond (Nat.beq pc 172) (some (.if_icmp .eq 504, 3, 676, 0, .null, [])) none) (cond (Nat.beq pc 169) (some (.invokevirtual 17, 3, 107, 2, .null, [602, 603, 604, 52])) none)) (cond (Nat.beq pc 168) (some (.iaload, 1, 0, 0, .null, [])) none))) (cond (Nat.ble 165 pc) (cond (Nat.ble 166 pc) (cond (Nat.ble 167 pc) (cond (Nat.beq pc 167) (some (.iadd, 1, 0, 0, .null, [])) none) (cond (Nat.beq pc 166) (some (.iconst 2, 1, 0, 0, .int 2, [])) none)) (cond (Nat.beq pc 165) (some (.iload_n 3, 1, 0, 0, .null, [])) none)) (cond (Nat.ble 163 pc) (cond (Nat.ble 164 pc) (cond (Nat.beq pc 164) (some (.aload_n 0, 1, 0, 0, .null, [])) none) (cond (Nat.beq pc 163) (some (.iaload, 1, 0, 0, .null, [])) none)) (cond (Nat.beq pc 162) (some (.iadd, 1, 0, 0, .null, [])) none)))) (cond (Nat.ble 153 pc) (cond (Nat.ble 158 pc) (cond (Nat.ble 160 pc) (cond (Nat.ble 161 pc) (cond (Nat.beq pc 161) (some (.iconst 1, 1, 0, 0, .int 1, [])) none) (cond (Nat.beq pc 160) (some (.iload_n 3, 1, 0, 0, .null, [])) none)) (cond (Nat.ble 159 pc) (cond (Nat.beq pc 159) (some (.aload_n 0, 1, 0, 0, .null, [])) none) (cond (Nat.beq pc 158) (some (.aload_n 2, 1, 0, 0, .null, [])) none))) (cond (Nat.ble 154 pc) (cond (Nat.ble 155 pc) (cond (Nat.beq pc 155) (some (.invokevirtual 13, 3, 61, 2, .null, [170, 171, 172, 48])) none) (cond (Nat.beq pc 154) (some (.iaload, 1, 0, 0, .null, [])) none)) (cond (Nat.beq pc 153) (some (.iadd, 1, 0, 0, .null, [])) none))) (cond (Nat.ble 150 pc) (cond (Nat.ble 151 pc) (cond (Nat.ble 152 pc) (cond (Nat.beq pc 152) (some (.iconst 2, 1, 0, 0, .int 2, [])) none) (cond (Nat.beq pc 151) (some (.iload_n 3, 1, 0, 0, .null, [])) none)) (cond (Nat.beq pc 150) (some (.aload_n 0, 1, 0, 0, .null, [])) none)) (cond (Nat.ble 148 pc) (cond (Nat.ble 149 pc) (cond (Nat.beq pc 149) (some (.iaload, 1, 0, 0, .null, [])) none) (cond (Nat.beq pc 148) (some (.iadd, 1, 0, 0, .null, [])) none)) (cond (Nat.beq pc 147) (some (.iconst 1, 1, 0, 0, .int 1, [])) none))))) (cond (Nat.ble 20 pc) (cond (Nat.ble 28 pc) (cond (Nat.ble 32 pc) (cond (Nat.ble 145 pc) (cond (Nat.ble 146 pc) (cond (Nat.beq pc 146) (some (.iload_n 3, 1, 0, 0, .null, [])) none) (cond (Nat.beq pc 145) (some (.aload_n 0, 1, 0, 0, .null, [])) none)) (cond (Nat.ble 144 pc) (cond (Nat.beq pc 144) (some (.aload_n 1, 1, 0, 0, .null, [])) none) (cond (Nat.beq pc 32) (some (.tableswitch 644 0 23 #[112, 145, 178, 201, 224, 247, 270, 293, 326, 359, 382, 405, 418, 441, 454, 467, 480, 493, 546, 559, 572, 585, 598, 621], 112, 0, 0, .null, [])) none))) (cond (Nat.ble 29 pc) (cond (Nat.ble 31 pc) (cond (Nat.beq pc 31) (some (.iand, 1, 0, 0, .null, [])) none) (cond (Nat.beq pc 29) (some (.bipush 31, 2, 0, 0, .int 31, [])) none)) (cond (Nat.beq pc 28) (some (.iaload, 1, 0, 0, .null, [])) none))) (cond (Nat.ble 23 pc) (cond (Nat.ble 26 pc) (cond (Nat.ble 27 pc) (cond (Nat.beq pc 27) (some (.iload_n 3, 1, 0, 0, .null, [])) none) (cond (Nat.beq pc 26) (some (.aload_n 0, 1, 0, 0, .null, [])) none)) (cond (Nat.beq pc 23) (some (.if_icmp .gt 659, 3, 682, 0, .null, [])) none)) (cond (Nat.ble 21 pc) (cond (Nat.ble 22 pc) (cond (Nat.beq pc 22) (some (.isub, 1, 0, 0, .null, [])) none) (cond (Nat.beq pc 21) (some (.iconst 3, 1, 0, 0, .int 3, [])) none)) (cond (Nat.beq pc 20) (some (.arraylength, 1, 0, 0, .null, [])) none)))) (cond (Nat.ble 12 pc) (cond (Nat.ble 17 pc) (cond (Nat.ble 18 pc) (cond (Nat.ble 19 pc) (cond (Nat.beq pc 19) (some (.aload_n 0, 1, 0, 0, .null, [])) none) (cond (Nat.beq pc 18) (some (.iload_n 3, 1, 0, 0, .null, [])) none)) (cond (Nat.beq pc 17) (some (.istore_n 3, 1, 0, 0, .null, [])) none)) (cond (Nat.ble 15 pc) (cond (Nat.ble 16 pc) (cond (Nat.beq pc 16) (some (.iconst 0, 1, 0, 0, .int 0, [])) none) (cond (Nat.beq pc 15) (some (.astore_n 2, 1, 0, 0, .null, [])) none)) (cond (Nat.beq pc 12) (some (.invokespecial 12, 3, 87, 0, .null, [523, 524, 52])) none))) (cond (Nat.ble 7 pc) (cond (Nat.ble 8 pc) (cond (Nat.ble 11 pc) (cond (Nat.beq pc 11) (some (.dup, 1, 0, 0, .null, [])) none) (cond (Nat.beq pc 8) (some (.new 10, 3, 4, 0, .null, [521, 522, 52])) none)) (cond (Nat.beq pc 7) (some (.astore_n 1, 1, 0, 0, .null, [])) none)) (cond (Nat.ble 3 pc) (cond (Nat.ble 4 pc) (cond (Nat.beq pc 4) (some (.invokespecial 9, 3, 58, 0, .null, [59, 60, 48])) none) (cond (Nat.beq pc 3) (some (.dup, 1, 0, 0, .null, [])) none)) (cond (Nat.beq pc 0) (some (.new 7, 3, 3, 0, .null, [57, 58, 48])) none))))))))
def xI : Nat → Nat → Option xEn := fun i => cond (Nat.ble 78 i) (cond (Nat.ble 117 i) (cond (Nat.ble 136 i) (cond (Nat.ble 146 i) (cond (Nat.ble 151 i) (cond (Nat.ble 153 i) (cond (Nat.ble 154 i) (cond (Nat.ble 155 i) (xI_155) (xI_154)) (xI_153)) (cond (Nat.ble 152 i) (xI_152) (xI_151))) (cond (Nat.ble 148 i) (cond (Nat.ble 149 i) (cond (Nat.ble 150 i) (xI_150) (xI_149)) (xI_148)) (cond (Nat.ble 147 i) (xI_147) (xI_146)))) (cond (Nat.ble 141 i) (cond (Nat.ble 143 i) (cond (Nat.ble 144 i) (cond (Nat.ble 145 i) (xI_145) (xI_144)) (xI_143)) (cond (Nat.ble 142 i) (xI_142) (xI_141))) (cond (Nat.ble 138 i) (cond (Nat.ble 139 i) (cond (Nat.ble 140 i) (xI_140) (xI_139)) (xI_138)) (cond (Nat.ble 137 i) (xI_137) (xI_136))))) (cond (Nat.ble 126 i) (cond (Nat.ble 131 i) (cond (Nat.ble 133 i) (cond (Nat.ble 134 i) (cond (Nat.ble 135 i) (xI_135) (xI_134)) (xI_133)) (cond (Nat.ble 132 i) (xI_132) (xI_131))) (cond (Nat.ble 128 i) (cond (Nat.ble 129 i) (cond (Nat.ble 130 i) (xI_130) (xI_129)) (xI_128)) (cond (Nat.ble 127 i) (xI_127) (xI_126)))) (cond (Nat.ble 121 i) (cond (Nat.ble 123 i) (cond (Nat.ble 124 i) (cond (Nat.ble 125 i) (xI_125) (xI_124)) (xI_123)) (cond (Nat.ble 122 i) (xI_122) (xI_121))) (cond (Nat.ble 119 i) (cond (Nat.ble 120 i) (xI_120) (xI_119)) (cond (Nat.ble 118 i) (xI_118) (xI_117)))))) (cond (Nat.ble 97 i) (cond (Nat.ble 107 i) (cond (Nat.ble 112 i) (cond (Nat.ble 114 i) (cond (Nat.ble 115 i) (cond (Nat.ble 116 i) (xI_116) (xI_115)) (xI_114)) (cond (Nat.ble 113 i) (xI_113) (xI_112))) (cond (Nat.ble 109 i) (cond (Nat.ble 110 i) (cond (Nat.ble 111 i) (xI_111) (xI_110)) (xI_109)) (cond (Nat.ble 108 i) (xI_108) (xI_107)))) (cond (Nat.ble 102 i) (cond (Nat.ble 104 i) (cond (Nat.ble 105 i) (cond (Nat.ble 106 i) (xI_106) (xI_105)) (xI_104)) (cond (Nat.ble 103 i) (xI_103) (xI_102))) (cond (Nat.ble 99 i) (cond (Nat.ble 100 i) (cond (Nat.ble 101 i) (xI_101) (xI_100)) (xI_99)) (cond (Nat.ble 98 i) (xI_98) (xI_97))))) (cond (Nat.ble 87 i) (cond (Nat.ble 92 i) (cond (Nat.ble 94 i) (cond (Nat.ble 95 i) (cond (Nat.ble 96 i) (xI_96) (xI_95)) (xI_94)) (cond (Nat.ble 93 i) (xI_93) (xI_92))) (cond (Nat.ble 89 i) (cond (Nat.ble 90 i) (cond (Nat.ble 91 i) (xI_91) (xI_90)) (xI_89)) (cond (Nat.ble 88 i) (xI_88) (xI_87)))) (cond (Nat.ble 82 i) (cond (Nat.ble 84 i) (cond (Nat.ble 85 i) (cond (Nat.ble 86 i) (xI_86) (xI_85)) (xI_84)) (cond (Nat.ble 83 i) (xI_83) (xI_82))) (cond (Nat.ble 80 i) (cond (Nat.ble 81 i) (xI_81) (xI_80)) (cond (Nat.ble 79 i) (xI_79) (xI_78))))))) (cond (Nat.ble 39 i) (cond (Nat.ble 58 i) (cond (Nat.ble 68 i) (cond (Nat.ble 73 i) (cond (Nat.ble 75 i) (cond (Nat.ble 76 i) (cond (Nat.ble 77 i) (xI_77) (xI_76)) (xI_75)) (cond (Nat.ble 74 i) (xI_74) (xI_73))) (cond (Nat.ble 70 i) (cond (Nat.ble 71 i) (cond (Nat.ble 72 i) (xI_72) (xI_71)) (xI_70)) (cond (Nat.ble 69 i) (xI_69) (xI_68)))) (cond (Nat.ble 63 i) (cond (Nat.ble 65 i) (cond (Nat.ble 66 i) (cond (Nat.ble 67 i) (xI_67) (xI_66)) (xI_65)) (cond (Nat.ble 64 i) (xI_64) (xI_63))) (cond (Nat.ble 60 i) (cond (Nat.ble 61 i) (cond (Nat.ble 62 i) (xI_62) (xI_61)) (xI_60)) (cond (Nat.ble 59 i) (xI_59) (xI_58))))) (cond (Nat.ble 48 i) (cond (Nat.ble 53 i) (cond (Nat.ble 55 i) (cond (Nat.ble 56 i) (cond (Nat.ble 57 i) (xI_57) (xI_56)) (xI_55)) (cond (Nat.ble 54 i) (xI_54) (xI_53))) (cond (Nat.ble 50 i) (cond (Nat.ble 51 i) (cond (Nat.ble 52 i) (xI_52) (xI_51)) (xI_50)) (cond (Nat.ble 49 i) (xI_49) (xI_48)))) (cond (Nat.ble 43 i) (cond (Nat.ble 45 i) (cond (Nat.ble 46 i) (cond (Nat.ble 47 i) (xI_47) (xI_46)) (xI_45)) (cond (Nat.ble 44 i) (xI_44) (xI_43))) (cond (Nat.ble 41 i) (cond (Nat.ble 42 i) (xI_42) (xI_41)) (cond (Nat.ble 40 i) (xI_40) (xI_39)))))) (cond (Nat.ble 19 i) (cond (Nat.ble 29 i) (cond (Nat.ble 34 i) (cond (Nat.ble 36 i) (cond (Nat.ble 37 i) (cond (Nat.ble 38 i) (xI_38) (xI_37)) (xI_36)) (cond (Nat.ble 35 i) (xI_35) (xI_34))) (cond (Nat.ble 31 i) (cond (Nat.ble 32 i) (cond (Nat.ble 33 i) (xI_33) (xI_32)) (xI_31)) (cond (Nat.ble 30 i) (xI_30) (xI_29)))) (cond (Nat.ble 24 i) (cond (Nat.ble 26 i) (cond (Nat.ble 27 i) (cond (Nat.ble 28 i) (xI_28) (xI_27)) (xI_26)) (cond (Nat.ble 25 i) (xI_25) (xI_24))) (cond (Nat.ble 21 i) (cond (Nat.ble 22 i) (cond (Nat.ble 23 i) (xI_23) (xI_22)) (xI_21)) (cond (Nat.ble 20 i) (xI_20) (xI_19))))) (cond (Nat.ble 9 i) (cond (Nat.ble 14 i) (cond (Nat.ble 16 i) (cond (Nat.ble 17 i) (cond (Nat.ble 18 i) (xI_18) (xI_17)) (xI_16)) (cond (Nat.ble 15 i) (xI_15) (xI_14))) (cond (Nat.ble 11 i) (cond (Nat.ble 12 i) (cond (Nat.ble 13 i) (xI_13) (xI_12)) (xI_11)) (cond (Nat.ble 10 i) (xI_10) (xI_9)))) (cond (Nat.ble 4 i) (cond (Nat.ble 6 i) (cond (Nat.ble 7 i) (cond (Nat.ble 8 i) (xI_8) (xI_7)) (xI_6)) (cond (Nat.ble 5 i) (xI_5) (xI_4))) (cond (Nat.ble 2 i) (cond (Nat.ble 3 i) (xI_3) (xI_2)) (cond (Nat.ble 1 i) (xI_1) (xI_0)))))))
/-- a method: its name, code, number of locals, type of its answer, number of parameters, the place of its code word, whether it is static, its length -/
def xMt : Nat → MethodName × ByteArray × Nat × Option FieldType × Nat × Nat × Bool × Nat := fun i => cond (Nat.ble 78 i) (cond (Nat.ble 117 i) (cond (Nat.ble 136 i) (cond (Nat.ble 146 i) (cond (Nat.ble 151 i) (cond (Nat.ble 153 i) (cond (Nat.ble 154 i) (cond (Nat.ble 155 i) ((⟨"BraidHornsLaw", "law", "([I)Z"⟩, code, 4, some .boolean, 1, 0, false, 684)) ((⟨"java/lang/Math", "min", "(II)I"⟩, prog_9_method_69_code, 2, some .int, 2, 269, true, 11))) ((⟨"BraidHornsModel", "carryOut", "()I"⟩, prog_7_method_68_code, 2, some .int, 0, 821, false, 50))) (cond (Nat.ble 152 i) ((⟨"BraidHornsModel", "doOrder", "(I)V"⟩, prog_7_method_67_code, 3, none, 1, 829, false, 128)) ((⟨"BraidHornsModel", "whyNot", "(I)I"⟩, prog_7_method_66_code, 3, some .int, 1, 825, false, 110)))) (cond (Nat.ble 148 i) (cond (Nat.ble 149 i) (cond (Nat.ble 150 i) ((⟨"BraidHornsModel", "fault", "()I"⟩, prog_7_method_65_code, 1, some .int, 0, 797, false, 17)) ((⟨"BraidHornsModel", "readPad", "()Z"⟩, prog_7_method_64_code, 2, some .boolean, 0, 801, false, 57))) ((⟨"BraidHornsModel", "readOrder", "()Z"⟩, prog_7_method_63_code, 4, some .boolean, 0, 805, false, 197))) (cond (Nat.ble 147 i) ((⟨"BraidHornsModel", "number", "(I)I"⟩, prog_7_method_62_code, 3, some .int, 1, 809, false, 87)) ((⟨"BraidHornsModel", "takes", "(I)Z"⟩, prog_7_method_61_code, 3, some .boolean, 1, 817, false, 27))))) (cond (Nat.ble 141 i) (cond (Nat.ble 143 i) (cond (Nat.ble 144 i) (cond (Nat.ble 145 i) ((⟨"BraidHornsModel", "sees", "(II)Z"⟩, prog_7_method_60_code, 3, some .boolean, 2, 813, false, 34)) ((⟨"BraidHornsModel", "wipe", "()I"⟩, prog_7_method_59_code, 2, some .int, 0, 793, false, 12))) ((⟨"BraidHornsModel", "put", "(J)I"⟩, prog_7_method_58_code, 7, some .int, 1, 788, false, 124))) (cond (Nat.ble 142 i) ((⟨"BraidHornsModel", "lasts", "()I"⟩, prog_7_method_57_code, 3, some .int, 0, 780, false, 56)) ((⟨"BraidHornsModel", "leastElls", "()I"⟩, prog_7_method_56_code, 3, some .int, 0, 784, false, 49)))) (cond (Nat.ble 138 i) (cond (Nat.ble 139 i) (cond (Nat.ble 140 i) ((⟨"BraidHornsModel", "period", "()I"⟩, prog_7_method_55_code, 2, some .int, 0, 768, false, 56)) ((⟨"BraidHornsModel", "areBack", "()Z"⟩, prog_7_method_54_code, 3, some .boolean, 0, 772, false, 49))) ((⟨"BraidHornsModel", "firstFree", "()I"⟩, prog_7_method_53_code, 2, some .int, 0, 764, false, 43))) (cond (Nat.ble 137 i) ((⟨"BraidHornsModel", "free", "()I"⟩, prog_7_method_52_code, 3, some .int, 0, 756, false, 38)) ((⟨"BraidHornsModel", "canAdd", "(I)Z"⟩, prog_7_method_51_code, 2, some .boolean, 1, 760, false, 49)))))) (cond (Nat.ble 126 i) (cond (Nat.ble 131 i) (cond (Nat.ble 133 i) (cond (Nat.ble 134 i) (cond (Nat.ble 135 i) ((⟨"BraidHornsModel", "meeting", "(I)I"⟩, prog_7_method_50_code, 4, some .int, 1, 740, false, 70)) ((⟨"BraidHornsModel", "carrierTurnedTo", "(I)I"⟩, prog_7_method_49_code, 5, some .int, 1, 752, false, 55))) ((⟨"BraidHornsModel", "meetsIn", "()I"⟩, prog_7_method_48_code, 2, some .int, 0, 744, false, 40))) (cond (Nat.ble 132 i) ((⟨"BraidHornsModel", "count", "(I)I"⟩, prog_7_method_47_code, 2, some .int, 1, 732, false, 168)) ((⟨"BraidHornsModel", "set", "()I"⟩, prog_7_method_46_code, 3, some .int, 0, 736, false, 36)))) (cond (Nat.ble 128 i) (cond (Nat.ble 129 i) (cond (Nat.ble 130 i) ((⟨"BraidHornsModel", "around", "(I)I"⟩, prog_7_method_45_code, 6, some .int, 1, 728, false, 68)) ((⟨"BraidHornsModel", "at", "(II)I"⟩, prog_7_method_44_code, 3, some .int, 2, 724, false, 23))) ((⟨"BraidHornsModel", "of", "(II)I"⟩, prog_7_method_43_code, 4, some .int, 2, 720, false, 116))) (cond (Nat.ble 127 i) ((⟨"BraidHornsModel", "refill", "(I)I"⟩, prog_7_method_42_code, 3, some .int, 1, 712, false, 28)) ((⟨"BraidHornsModel", "refillNow", "(I)V"⟩, prog_7_method_41_code, 2, none, 1, 716, false, 22))))) (cond (Nat.ble 121 i) (cond (Nat.ble 123 i) (cond (Nat.ble 124 i) (cond (Nat.ble 125 i) ((⟨"BraidHornsModel", "tie", "(I)I"⟩, prog_7_method_40_code, 3, some .int, 1, 704, false, 29)) ((⟨"BraidHornsModel", "tieNow", "(I)V"⟩, prog_7_method_39_code, 2, none, 1, 708, false, 18))) ((⟨"BraidHornsModel", "snap", "(I)I"⟩, prog_7_method_38_code, 3, some .int, 1, 696, false, 30))) (cond (Nat.ble 122 i) ((⟨"BraidHornsModel", "whyNotEnd", "(II)I"⟩, prog_7_method_37_code, 3, some .int, 2, 700, false, 29)) ((⟨"BraidHornsModel", "run", "(I)I"⟩, prog_7_method_36_code, 3, some .int, 1, 679, false, 22)))) (cond (Nat.ble 119 i) (cond (Nat.ble 120 i) ((⟨"BraidHornsModel", "runNow", "(I)I"⟩, prog_7_method_35_code, 3, some .int, 1, 687, false, 60)) ((⟨"BraidHornsModel", "whyNotRun", "(I)I"⟩, prog_7_method_34_code, 2, some .int, 1, 683, false, 36))) (cond (Nat.ble 118 i) ((⟨"BraidHornsModel", "step", "()V"⟩, prog_7_method_33_code, 3, none, 0, 692, false, 158)) ((⟨"BraidHornsModel", "why", "()I"⟩, prog_7_method_32_code, 1, some .int, 0, 656, false, 53))))))) (cond (Nat.ble 97 i) (cond (Nat.ble 107 i) (cond (Nat.ble 112 i) (cond (Nat.ble 114 i) (cond (Nat.ble 115 i) (cond (Nat.ble 116 i) ((⟨"BraidHornsModel", "isEmpty", "()Z"⟩, prog_7_method_31_code, 3, some .boolean, 0, 668, false, 45)) ((⟨"BraidHornsModel", "takeOut", "(I)I"⟩, prog_7_method_30_code, 2, some .int, 1, 648, false, 26))) ((⟨"BraidHornsModel", "takeOutNow", "(I)V"⟩, prog_7_method_29_code, 2, none, 1, 652, false, 25))) (cond (Nat.ble 113 i) ((⟨"BraidHornsModel", "carrier", "(II)I"⟩, prog_7_method_28_code, 4, some .int, 2, 612, false, 24)) ((⟨"BraidHornsModel", "carrierNow", "(II)I"⟩, prog_7_method_26_code, 5, some .int, 2, 640, false, 58)))) (cond (Nat.ble 109 i) (cond (Nat.ble 110 i) (cond (Nat.ble 111 i) ((⟨"BraidHornsModel", "fill", "(I)V"⟩, prog_7_method_27_code, 2, none, 1, 644, false, 29)) ((⟨"BraidHornsModel", "whyNotCarrier", "(II)I"⟩, prog_7_method_25_code, 3, some .int, 2, 616, false, 46))) ((⟨"BraidHornsModel", "isFree", "(I)Z"⟩, prog_7_method_24_code, 2, some .boolean, 1, 628, false, 30))) (cond (Nat.ble 108 i) ((⟨"BraidHornsModel", "isPlace", "(II)Z"⟩, prog_7_method_23_code, 3, some .boolean, 2, 620, false, 29)) ((⟨"BraidHornsModel", "set", "(II)I"⟩, prog_7_method_22_code, 4, some .int, 2, 605, false, 45))))) (cond (Nat.ble 102 i) (cond (Nat.ble 104 i) (cond (Nat.ble 105 i) (cond (Nat.ble 106 i) ((⟨"BraidHornsModel", "isValue", "(II)Z"⟩, prog_7_method_21_code, 2, some .boolean, 2, 608, true, 51)) ((⟨"BraidHornsModel", "stepPlaces", "()V"⟩, prog_7_method_20_code, 2, none, 0, 748, false, 36))) ((⟨"BraidHornsModel", "meetAt", "()I"⟩, prog_7_method_19_code, 6, some .int, 0, 672, false, 93))) (cond (Nat.ble 103 i) ((⟨"BraidHornsModel", "isTaken", "(I)Z"⟩, prog_7_method_18_code, 4, some .boolean, 1, 776, false, 40)) ((⟨"BraidHornsModel", "takePlaces", "()V"⟩, prog_7_method_17_code, 2, none, 0, 660, false, 53)))) (cond (Nat.ble 99 i) (cond (Nat.ble 100 i) (cond (Nat.ble 101 i) ((⟨"BraidHornsModel", "turned", "(I)I"⟩, prog_7_method_16_code, 2, some .int, 1, 675, true, 24)) ((⟨"BraidHornsModel", "otherSide", "(I)I"⟩, prog_7_method_15_code, 4, some .int, 1, 636, false, 50))) ((⟨"BraidHornsModel", "restore", "(I)I"⟩, prog_7_method_14_code, 2, some .int, 1, 597, false, 49))) (cond (Nat.ble 98 i) ((⟨"BraidHornsModel", "save", "(I)I"⟩, prog_7_method_13_code, 2, some .int, 1, 578, false, 40)) ((⟨"BraidHornsModel", "undo", "()I"⟩, prog_7_method_12_code, 1, some .int, 0, 571, false, 44)))))) (cond (Nat.ble 87 i) (cond (Nat.ble 92 i) (cond (Nat.ble 94 i) (cond (Nat.ble 95 i) (cond (Nat.ble 96 i) ((⟨"BraidHornsModel", "record", "()V"⟩, prog_7_method_11_code, 2, none, 0, 601, false, 79)) ((⟨"BraidHornsModel", "copyState", "([II[II)V"⟩, prog_7_method_10_code, 5, none, 4, 574, true, 29))) ((⟨"BraidHornsModel", "carrierIn", "(I)I"⟩, prog_7_method_9_code, 4, some .int, 1, 632, false, 43))) (cond (Nat.ble 93 i) ((⟨"BraidHornsModel", "sum", "(I)I"⟩, prog_7_method_8_code, 4, some .int, 1, 664, false, 39)) ((⟨"BraidHornsModel", "many", "()I"⟩, prog_7_method_7_code, 3, some .int, 0, 585, false, 34)))) (cond (Nat.ble 89 i) (cond (Nat.ble 90 i) (cond (Nat.ble 91 i) ((⟨"BraidHornsModel", "horns", "()I"⟩, prog_7_method_6_code, 1, some .int, 0, 624, false, 9)) ((⟨"BraidHornsModel", "isCarrier", "(I)Z"⟩, prog_7_method_5_code, 2, some .boolean, 1, 589, false, 27))) ((⟨"BraidHornsModel", "of1", "(II)I"⟩, prog_7_method_3_code, 3, some .int, 2, 593, false, 15))) (cond (Nat.ble 88 i) ((⟨"BraidHornsModel", "in", "(III)Z"⟩, prog_7_method_2_code, 3, some .boolean, 3, 581, true, 16)) ((⟨"BraidHornsModel", "<init>", "()V"⟩, prog_7_method_1_code, 2, none, 0, 525, false, 106))))) (cond (Nat.ble 82 i) (cond (Nat.ble 84 i) (cond (Nat.ble 85 i) (cond (Nat.ble 86 i) ((⟨"BraidHornsModel", "lay", "(III)V"⟩, prog_7_method_4_code, 4, none, 3, 530, false, 16)) ((⟨"BraidHorns", "restore", "(I)I"⟩, prog_1_method_25_code, 2, some .int, 1, 520, false, 53))) ((⟨"BraidHorns", "save", "(I)I"⟩, prog_1_method_24_code, 2, some .int, 1, 506, false, 40))) (cond (Nat.ble 83 i) ((⟨"BraidHorns", "undo", "()I"⟩, prog_1_method_23_code, 1, some .int, 0, 502, false, 41)) ((⟨"BraidHorns", "carryOut", "()I"⟩, prog_1_method_22_code, 3, some .int, 0, 472, false, 71)))) (cond (Nat.ble 80 i) (cond (Nat.ble 81 i) ((⟨"BraidHorns", "carryOutOrder", "(I)I"⟩, prog_1_method_26_code, 3, some .int, 1, 476, false, 143)) ((⟨"BraidHorns", "fault", "()I"⟩, prog_1_method_21_code, 1, some .int, 0, 455, false, 8))) (cond (Nat.ble 79 i) ((⟨"BraidHorns", "wipe", "()I"⟩, prog_1_method_20_code, 1, some .int, 0, 447, false, 8)) ((⟨"BraidHorns", "put", "(J)I"⟩, prog_1_method_19_code, 3, some .int, 1, 433, false, 9)))))))) (cond (Nat.ble 39 i) (cond (Nat.ble 58 i) (cond (Nat.ble 68 i) (cond (Nat.ble 73 i) (cond (Nat.ble 75 i) (cond (Nat.ble 76 i) (cond (Nat.ble 77 i) ((⟨"BraidHorns", "lasts", "()I"⟩, prog_1_method_18_code, 3, some .int, 0, 428, false, 53)) ((⟨"BraidHorns", "period", "()I"⟩, prog_1_method_17_code, 3, some .int, 0, 421, false, 29))) ((⟨"BraidHorns", "firstFree", "()I"⟩, prog_1_method_16_code, 5, some .int, 0, 417, false, 49))) (cond (Nat.ble 74 i) ((⟨"BraidHorns", "free", "()I"⟩, prog_1_method_15_code, 6, some .int, 0, 408, false, 52)) ((⟨"BraidHorns", "meeting", "(I)I"⟩, prog_1_method_14_code, 8, some .int, 1, 372, false, 107)))) (cond (Nat.ble 70 i) (cond (Nat.ble 71 i) (cond (Nat.ble 72 i) ((⟨"BraidHorns", "why", "()I"⟩, prog_1_method_13_code, 1, some .int, 0, 367, false, 8)) ((⟨"BraidHorns", "count", "(I)I"⟩, prog_1_method_12_code, 2, some .int, 1, 355, false, 50))) ((⟨"BraidHorns", "around", "(I)I"⟩, prog_1_method_11_code, 2, some .int, 1, 346, false, 9))) (cond (Nat.ble 69 i) ((⟨"BraidHorns", "at", "(II)I"⟩, prog_1_method_10_code, 4, some .int, 2, 337, false, 28)) ((⟨"BraidHorns", "of", "(II)I"⟩, prog_1_method_9_code, 3, some .int, 2, 325, false, 27))))) (cond (Nat.ble 63 i) (cond (Nat.ble 65 i) (cond (Nat.ble 66 i) (cond (Nat.ble 67 i) ((⟨"BraidHorns", "refill", "(I)I"⟩, prog_1_method_8_code, 2, some .int, 1, 317, false, 17)) ((⟨"BraidHorns", "tie", "(I)I"⟩, prog_1_method_7_code, 2, some .int, 1, 309, false, 17))) ((⟨"BraidHorns", "snap", "(I)I"⟩, prog_1_method_6_code, 2, some .int, 1, 301, false, 17))) (cond (Nat.ble 64 i) ((⟨"BraidHorns", "run", "(I)I"⟩, prog_1_method_5_code, 2, some .int, 1, 250, false, 17)) ((⟨"BraidHorns", "takeOut", "(I)I"⟩, prog_1_method_4_code, 2, some .int, 1, 238, false, 17)))) (cond (Nat.ble 60 i) (cond (Nat.ble 61 i) (cond (Nat.ble 62 i) ((⟨"BraidHorns", "carrier", "(II)I"⟩, prog_1_method_3_code, 3, some .int, 2, 208, false, 18)) ((⟨"BraidHorns", "set", "(II)I"⟩, prog_1_method_2_code, 3, some .int, 2, 173, false, 18))) ((⟨"BraidHorns", "recorded", "(I)I"⟩, prog_1_method_28_code, 4, some .int, 1, 204, false, 72))) (cond (Nat.ble 59 i) ((⟨"BraidHorns", "keepState", "()V"⟩, prog_1_method_27_code, 1, none, 0, 177, false, 17)) ((⟨"BraidHorns", "<init>", "()V"⟩, prog_1_method_1_code, 2, none, 0, 61, false, 116)))))) (cond (Nat.ble 48 i) (cond (Nat.ble 53 i) (cond (Nat.ble 55 i) (cond (Nat.ble 56 i) (cond (Nat.ble 57 i) ((⟨"BraidHorns$Track", "tell", "(I)I"⟩, prog_5_method_25_code, 2, some .int, 1, 359, false, 142)) ((⟨"BraidHorns$Track", "changeBobbin", "(I)I"⟩, prog_5_method_24_code, 3, some .int, 1, 321, false, 62))) ((⟨"BraidHorns$Track", "mendEnd", "(I)I"⟩, prog_5_method_23_code, 2, some .int, 1, 313, false, 50))) (cond (Nat.ble 54 i) ((⟨"BraidHorns$Track", "breakEnd", "(I)I"⟩, prog_5_method_22_code, 2, some .int, 1, 305, false, 40)) ((⟨"BraidHorns$Track", "advance", "(I)I"⟩, prog_5_method_20_code, 3, some .int, 1, 254, false, 65)))) (cond (Nat.ble 50 i) (cond (Nat.ble 51 i) (cond (Nat.ble 52 i) ((⟨"BraidHorns$Track", "doStep", "()V"⟩, prog_5_method_21_code, 2, none, 0, 289, false, 75)) ((⟨"BraidHorns$Track", "remove", "(I)I"⟩, prog_5_method_19_code, 3, some .int, 1, 242, false, 42))) ((⟨"BraidHorns$Track", "insert", "(II)I"⟩, prog_5_method_18_code, 5, some .int, 2, 212, false, 99))) (cond (Nat.ble 49 i) ((⟨"BraidHorns$Track", "changeSetting", "(II)I"⟩, prog_5_method_17_code, 4, some .int, 2, 192, false, 63)) ((⟨"BraidHorns$Track", "hindrance", "()I"⟩, prog_5_method_16_code, 3, some .int, 0, 258, false, 53))))) (cond (Nat.ble 43 i) (cond (Nat.ble 45 i) (cond (Nat.ble 46 i) (cond (Nat.ble 47 i) ((⟨"BraidHorns$Track", "leastElls", "()I"⟩, prog_5_method_15_code, 3, some .int, 0, 266, false, 50)) ((⟨"BraidHorns$Track", "allElls", "()I"⟩, prog_5_method_14_code, 3, some .int, 0, 363, false, 42))) ((⟨"BraidHorns$Track", "brokenEnds", "()I"⟩, prog_5_method_13_code, 3, some .int, 0, 262, false, 45))) (cond (Nat.ble 44 i) ((⟨"BraidHorns$Track", "carrierCount", "()I"⟩, prog_5_method_12_code, 1, some .int, 0, 510, false, 8)) ((⟨"java/lang/Integer", "bitCount", "(I)I"⟩, prog_8_method_49_code, 1, some .int, 1, 513, true, 53)))) (cond (Nat.ble 41 i) (cond (Nat.ble 42 i) ((⟨"BraidHorns$Track", "carrierSet", "()I"⟩, prog_5_method_11_code, 3, some .int, 0, 200, false, 36)) ((⟨"BraidHorns$Track", "taken", "()J"⟩, prog_5_method_10_code, 4, some .long, 0, 224, false, 44))) (cond (Nat.ble 40 i) ((⟨"BraidHorns$Track", "carrierOfRank", "(I)I"⟩, prog_5_method_9_code, 5, some .int, 1, 350, false, 46)) ((⟨"BraidHorns$Track", "carrierTurnedTo", "(II)I"⟩, prog_5_method_7_code, 4, some .int, 2, 398, false, 49))))))) (cond (Nat.ble 19 i) (cond (Nat.ble 29 i) (cond (Nat.ble 34 i) (cond (Nat.ble 36 i) (cond (Nat.ble 37 i) (cond (Nat.ble 38 i) ((⟨"BraidHorns$Track", "turnedPlace", "(II)I"⟩, prog_5_method_8_code, 5, some .int, 2, 402, false, 34)) ((⟨"BraidHorns$Track", "carrierIn", "(I)I"⟩, prog_5_method_6_code, 3, some .int, 1, 342, false, 44))) ((⟨"BraidHorns$Track", "placeOf", "(II)I"⟩, prog_5_method_5_code, 3, some .int, 2, 216, false, 29))) (cond (Nat.ble 35 i) ((⟨"BraidHorns$Track", "hasCarrier", "(I)Z"⟩, prog_5_method_4_code, 2, some .boolean, 1, 246, false, 28)) ((⟨"BraidHorns$Track", "horns", "()I"⟩, prog_5_method_3_code, 1, some .int, 0, 220, false, 9)))) (cond (Nat.ble 31 i) (cond (Nat.ble 32 i) (cond (Nat.ble 33 i) ((⟨"BraidHorns$Track", "copyFrom", "(LBraidHorns$Track;)V"⟩, prog_5_method_2_code, 3, none, 1, 181, false, 107)) ((⟨"BraidHorns$Track", "<init>", "()V"⟩, prog_5_method_1_code, 2, none, 0, 69, false, 64))) ((⟨"BraidHorns$Pad", "nextOrder", "(I)I"⟩, prog_4_method_13_code, 3, some .int, 1, 498, false, 30))) (cond (Nat.ble 30 i) ((⟨"BraidHorns$Pad", "notchFrom", "(I)I"⟩, prog_4_method_12_code, 2, some .int, 1, 493, false, 12)) ((⟨"BraidHorns$Pad", "numberFrom", "(I)I"⟩, prog_4_method_11_code, 5, some .int, 1, 480, false, 40))))) (cond (Nat.ble 24 i) (cond (Nat.ble 26 i) (cond (Nat.ble 27 i) (cond (Nat.ble 28 i) ((⟨"BraidHorns$Pad", "behindDigits", "(I)I"⟩, prog_4_method_10_code, 3, some .int, 1, 484, false, 29)) ((⟨"BraidHorns$Pad", "signAt", "(I)C"⟩, prog_4_method_9_code, 2, some .char, 1, 488, false, 23))) ((⟨"BraidHorns$Pad", "faultIndex", "()I"⟩, prog_4_method_5_code, 3, some .int, 0, 459, false, 57))) (cond (Nat.ble 25 i) ((⟨"BraidHorns$Pad", "dueBehind", "(IC)I"⟩, prog_4_method_6_code, 3, some .int, 2, 462, true, 172)) ((⟨"BraidHorns$Pad", "dueBehindLetter", "(C)I"⟩, prog_4_method_7_code, 1, some .int, 1, 468, true, 69)))) (cond (Nat.ble 21 i) (cond (Nat.ble 22 i) (cond (Nat.ble 23 i) ((⟨"BraidHorns$Pad", "isDigit", "(C)Z"⟩, prog_4_method_8_code, 1, some .boolean, 1, 465, true, 18)) ((⟨"BraidHorns$Pad", "empty", "()I"⟩, prog_4_method_4_code, 2, some .int, 0, 451, false, 12))) ((⟨"BraidHorns$Pad", "append", "(J)I"⟩, prog_4_method_2_code, 5, some .int, 1, 437, false, 79))) (cond (Nat.ble 20 i) ((⟨"BraidHorns$Pad", "characterCount", "(J)I"⟩, prog_4_method_3_code, 7, some .int, 1, 440, true, 59)) ((⟨"BraidHorns$Pad", "<init>", "()V"⟩, prog_4_method_1_code, 1, none, 0, 139, false, 18)))))) (cond (Nat.ble 9 i) (cond (Nat.ble 14 i) (cond (Nat.ble 16 i) (cond (Nat.ble 17 i) (cond (Nat.ble 18 i) ((⟨"BraidHorns$Motion", "staysFree", "(JII)Z"⟩, prog_3_method_15_code, 4, some .boolean, 3, 411, true, 31)) ((⟨"BraidHorns$Motion", "fits", "(JII)Z"⟩, prog_3_method_14_code, 4, some .boolean, 3, 227, true, 24))) ((⟨"BraidHorns$Motion", "firstReturn", "(JI)I"⟩, prog_3_method_13_code, 6, some .int, 2, 424, true, 47))) (cond (Nat.ble 15 i) ((⟨"BraidHorns$Motion", "meetingContact", "(JII)I"⟩, prog_3_method_12_code, 9, some .int, 3, 393, true, 72)) ((⟨"BraidHorns$Motion", "firstMeeting", "(JII)I"⟩, prog_3_method_11_code, 7, some .int, 3, 377, true, 51)))) (cond (Nat.ble 11 i) (cond (Nat.ble 12 i) (cond (Nat.ble 13 i) ((⟨"BraidHorns$Motion", "behindStep", "(JI)J"⟩, prog_3_method_10_code, 5, some .long, 2, 380, true, 27)) ((⟨"BraidHorns$Motion", "meetings", "(JI)J"⟩, prog_3_method_9_code, 3, some .long, 2, 281, true, 16))) ((⟨"BraidHorns$Motion", "allPassed", "(JI)J"⟩, prog_3_method_8_code, 3, some .long, 2, 386, true, 26))) (cond (Nat.ble 10 i) ((⟨"BraidHorns$Motion", "toHornBefore", "(JI)J"⟩, prog_3_method_7_code, 4, some .long, 2, 285, true, 22)) ((⟨"BraidHorns$Motion", "toNextHorn", "(JI)J"⟩, prog_3_method_6_code, 4, some .long, 2, 390, true, 22))))) (cond (Nat.ble 4 i) (cond (Nat.ble 6 i) (cond (Nat.ble 7 i) (cond (Nat.ble 8 i) ((⟨"BraidHorns$Motion", "allTurned", "(J)J"⟩, prog_3_method_5_code, 10, some .long, 1, 272, true, 55)) ((⟨"BraidHorns$Carrier", "tell", "(I)I"⟩, prog_2_method_5_code, 2, some .int, 1, 330, false, 114))) ((⟨"BraidHorns$Motion", "goesUp", "(I)Z"⟩, prog_3_method_4_code, 3, some .boolean, 1, 333, true, 42))) (cond (Nat.ble 5 i) ((⟨"BraidHorns$Carrier", "move", "(I)V"⟩, prog_2_method_4_code, 3, none, 1, 293, false, 92)) ((⟨"BraidHorns$Motion", "passed", "(II)I"⟩, prog_3_method_3_code, 3, some .int, 2, 230, true, 76)))) (cond (Nat.ble 2 i) (cond (Nat.ble 3 i) ((⟨"BraidHorns$Motion", "turned", "(I)I"⟩, prog_3_method_2_code, 3, some .int, 1, 296, true, 26)) ((⟨"BraidHorns$Carrier", "copyCarrier", "(LBraidHorns$Carrier;)V"⟩, prog_2_method_3_code, 2, none, 1, 188, false, 57))) (cond (Nat.ble 1 i) ((⟨"BraidHorns$Carrier", "begin", "(II)V"⟩, prog_2_method_2_code, 3, none, 2, 234, false, 36)) ((⟨"BraidHorns$Carrier", "<init>", "()V"⟩, prog_2_method_1_code, 1, none, 0, 76, false, 5))))))))
/-- the number of a method's class among the classes of objects -/
def xcm : Nat → Nat := fun i => cond (Nat.ble 78 i) (cond (Nat.ble 117 i) (cond (Nat.ble 136 i) (cond (Nat.ble 146 i) (cond (Nat.ble 151 i) (cond (Nat.ble 153 i) (cond (Nat.ble 154 i) (cond (Nat.ble 155 i) (99) (99)) (4)) (cond (Nat.ble 152 i) (4) (4))) (cond (Nat.ble 148 i) (cond (Nat.ble 149 i) (cond (Nat.ble 150 i) (4) (4)) (4)) (cond (Nat.ble 147 i) (4) (4)))) (cond (Nat.ble 141 i) (cond (Nat.ble 143 i) (cond (Nat.ble 144 i) (cond (Nat.ble 145 i) (4) (4)) (4)) (cond (Nat.ble 142 i) (4) (4))) (cond (Nat.ble 138 i) (cond (Nat.ble 139 i) (cond (Nat.ble 140 i) (4) (4)) (4)) (cond (Nat.ble 137 i) (4) (4))))) (cond (Nat.ble 126 i) (cond (Nat.ble 131 i) (cond (Nat.ble 133 i) (cond (Nat.ble 134 i) (cond (Nat.ble 135 i) (4) (4)) (4)) (cond (Nat.ble 132 i) (4) (4))) (cond (Nat.ble 128 i) (cond (Nat.ble 129 i) (cond (Nat.ble 130 i) (4) (4)) (4)) (cond (Nat.ble 127 i) (4) (4)))) (cond (Nat.ble 121 i) (cond (Nat.ble 123 i) (cond (Nat.ble 124 i) (cond (Nat.ble 125 i) (4) (4)) (4)) (cond (Nat.ble 122 i) (4) (4))) (cond (Nat.ble 119 i) (cond (Nat.ble 120 i) (4) (4)) (cond (Nat.ble 118 i) (4) (4)))))) (cond (Nat.ble 97 i) (cond (Nat.ble 107 i) (cond (Nat.ble 112 i) (cond (Nat.ble 114 i) (cond (Nat.ble 115 i) (cond (Nat.ble 116 i) (4) (4)) (4)) (cond (Nat.ble 113 i) (4) (4))) (cond (Nat.ble 109 i) (cond (Nat.ble 110 i) (cond (Nat.ble 111 i) (4) (4)) (4)) (cond (Nat.ble 108 i) (4) (4)))) (cond (Nat.ble 102 i) (cond (Nat.ble 104 i) (cond (Nat.ble 105 i) (cond (Nat.ble 106 i) (4) (4)) (4)) (cond (Nat.ble 103 i) (4) (4))) (cond (Nat.ble 99 i) (cond (Nat.ble 100 i) (cond (Nat.ble 101 i) (4) (4)) (4)) (cond (Nat.ble 98 i) (4) (4))))) (cond (Nat.ble 87 i) (cond (Nat.ble 92 i) (cond (Nat.ble 94 i) (cond (Nat.ble 95 i) (cond (Nat.ble 96 i) (4) (4)) (4)) (cond (Nat.ble 93 i) (4) (4))) (cond (Nat.ble 89 i) (cond (Nat.ble 90 i) (cond (Nat.ble 91 i) (4) (4)) (4)) (cond (Nat.ble 88 i) (4) (4)))) (cond (Nat.ble 82 i) (cond (Nat.ble 84 i) (cond (Nat.ble 85 i) (cond (Nat.ble 86 i) (4) (3)) (3)) (cond (Nat.ble 83 i) (3) (3))) (cond (Nat.ble 80 i) (cond (Nat.ble 81 i) (3) (3)) (cond (Nat.ble 79 i) (3) (3))))))) (cond (Nat.ble 39 i) (cond (Nat.ble 58 i) (cond (Nat.ble 68 i) (cond (Nat.ble 73 i) (cond (Nat.ble 75 i) (cond (Nat.ble 76 i) (cond (Nat.ble 77 i) (3) (3)) (3)) (cond (Nat.ble 74 i) (3) (3))) (cond (Nat.ble 70 i) (cond (Nat.ble 71 i) (cond (Nat.ble 72 i) (3) (3)) (3)) (cond (Nat.ble 69 i) (3) (3)))) (cond (Nat.ble 63 i) (cond (Nat.ble 65 i) (cond (Nat.ble 66 i) (cond (Nat.ble 67 i) (3) (3)) (3)) (cond (Nat.ble 64 i) (3) (3))) (cond (Nat.ble 60 i) (cond (Nat.ble 61 i) (cond (Nat.ble 62 i) (3) (3)) (3)) (cond (Nat.ble 59 i) (3) (3))))) (cond (Nat.ble 48 i) (cond (Nat.ble 53 i) (cond (Nat.ble 55 i) (cond (Nat.ble 56 i) (cond (Nat.ble 57 i) (2) (2)) (2)) (cond (Nat.ble 54 i) (2) (2))) (cond (Nat.ble 50 i) (cond (Nat.ble 51 i) (cond (Nat.ble 52 i) (2) (2)) (2)) (cond (Nat.ble 49 i) (2) (2)))) (cond (Nat.ble 43 i) (cond (Nat.ble 45 i) (cond (Nat.ble 46 i) (cond (Nat.ble 47 i) (2) (2)) (2)) (cond (Nat.ble 44 i) (2) (99))) (cond (Nat.ble 41 i) (cond (Nat.ble 42 i) (2) (2)) (cond (Nat.ble 40 i) (2) (2)))))) (cond (Nat.ble 19 i) (cond (Nat.ble 29 i) (cond (Nat.ble 34 i) (cond (Nat.ble 36 i) (cond (Nat.ble 37 i) (cond (Nat.ble 38 i) (2) (2)) (2)) (cond (Nat.ble 35 i) (2) (2))) (cond (Nat.ble 31 i) (cond (Nat.ble 32 i) (cond (Nat.ble 33 i) (2) (2)) (1)) (cond (Nat.ble 30 i) (1) (1)))) (cond (Nat.ble 24 i) (cond (Nat.ble 26 i) (cond (Nat.ble 27 i) (cond (Nat.ble 28 i) (1) (1)) (1)) (cond (Nat.ble 25 i) (1) (1))) (cond (Nat.ble 21 i) (cond (Nat.ble 22 i) (cond (Nat.ble 23 i) (1) (1)) (1)) (cond (Nat.ble 20 i) (1) (1))))) (cond (Nat.ble 9 i) (cond (Nat.ble 14 i) (cond (Nat.ble 16 i) (cond (Nat.ble 17 i) (cond (Nat.ble 18 i) (99) (99)) (99)) (cond (Nat.ble 15 i) (99) (99))) (cond (Nat.ble 11 i) (cond (Nat.ble 12 i) (cond (Nat.ble 13 i) (99) (99)) (99)) (cond (Nat.ble 10 i) (99) (99)))) (cond (Nat.ble 4 i) (cond (Nat.ble 6 i) (cond (Nat.ble 7 i) (cond (Nat.ble 8 i) (99) (0)) (99)) (cond (Nat.ble 5 i) (0) (99))) (cond (Nat.ble 2 i) (cond (Nat.ble 3 i) (99) (0)) (cond (Nat.ble 1 i) (0) (0)))))))
end
section
/-! A machine of its own over the program as data: locals and stack as lists, references as numbers of cells, the heap as a function. -/
abbrev xLC : Type := (Nat × Nat × ((Nat → Int32) ⊕ (Nat → Option Nat))) ⊕ (Nat × List Value)
abbrev xHp : Type := Nat → xLC
abbrev xLs : Type := List (Nat × Value)
abbrev xRs : Type := Nat × xLs × List Value × xHp × Nat × Nat × Nat
def xNo : xLC := .inr (99, [])
def xcl : List vw_C := [(RX0, TX0, 7), (RX2, TX2, 2), (RX3, TX3, 9), (RX4, TX4, 6), (RX5, TX5, 12)]
def xclTy : List (Nat → FieldType) := [tyX0, tyX2, tyX3, tyX4, tyX5]
def xfty (ci k : Nat) : FieldType := ((xclTy[ci]?).getD tyX0) k
def xdef : Nat → List Value := fun ci => cond (Nat.beq ci 0) [.int 0, .int 0, .int 0, .int 0, .int 0, .int 0, .int 0] (cond (Nat.beq ci 1) [.null, .int 0] (cond (Nat.beq ci 2) [.null, .null, .int 0, .int 0, .int 0, .int 0, .int 0, .int 0, .int 0] (cond (Nat.beq ci 3) [.null, .null, .int 0, .null, .null, .null] [.null, .null, .int 0, .null, .null, .null, .int 0, .null, .int 0, .int 0, .null, .int 0])))
def xcls (ci : Nat) : Nat := ((xcl[ci]?).map (fun q => q.2.2)).getD 0
def xup (h : xHp) (k : Nat) (c : xLC) : xHp := fun j => if j = k then c else h j
def xgo (pc : Nat) (ls : xLs) (st : List Value) (h : xHp) (n : Nat) : Option xRs := some (pc, ls, st, h, n, 0, 0)
def xld (ls : xLs) (i : Nat) : Option Value := match ls with
  | [] => none
  | q :: r => cond (Nat.beq q.1 i) (some q.2) (xld r i)
def xst1 (ls : xLs) (i : Nat) (v : Value) : xLs := (i, v) :: ls.filter (fun q => !(q.1 == i) && !(q.1 + 1 == i && q.2.category == 2))
def xst2 (ls : xLs) (i : Nat) (v : Value) : xLs := (i, v) :: ls.filter (fun q => !(q.1 == i) && (!(q.1 == i + 1) && !(q.1 + 1 == i && q.2.category == 2)))
def xpI {α : Type} (st : List Value) (k : Int32 → List Value → Option α) : Option α := match st with | .int x :: r => k x r | _ => none
def xpL {α : Type} (st : List Value) (k : Int64 → List Value → Option α) : Option α := match st with | .long x :: r => k x r | _ => none
def xpR {α : Type} (st : List Value) (k : Nat → List Value → Option α) : Option α := match st with | .ref x :: r => k x r | _ => none
def xpV {α : Type} (st : List Value) (k : Value → List Value → Option α) : Option α := match st with | v :: r => k v r | _ => none
def xgI {α : Type} (v : Option Value) (k : Int32 → Option α) : Option α := match v with | some (.int x) => k x | _ => none
def xgL {α : Type} (v : Option Value) (k : Int64 → Option α) : Option α := match v with | some (.long x) => k x | _ => none
def xgR {α : Type} (v : Option Value) (k : Nat → Option α) : Option α := match v with | some (.ref x) => k x | _ => none
def xgO {α β : Type} (v : Option β) (k : β → Option α) : Option α := match v with | some x => k x | none => none
def xcI {α : Type} (c : xLC) (k : Nat → Nat → (Nat → Int32) → Option α) : Option α := match c with | .inl (t, len, .inl f) => k t len f | _ => none
def xcQ {α : Type} (c : xLC) (k : Nat → Nat → (Nat → Option Nat) → Option α) : Option α := match c with | .inl (t, len, .inr f) => k t len f | _ => none
def xcO {α : Type} (c : xLC) (k : Nat → List Value → Option α) : Option α := match c with | .inr (ci, fs) => k ci fs | _ => none
def xcN {α : Type} (c : xLC) (k : Nat → Nat → Option α) : Option α := match c with | .inl (t, len, _) => k t len | _ => none
def xgd {α : Type} (b : Bool) (a : Option α) : Option α := cond b a none
def xgp {α : Type} (c : Prop) [Decidable c] (a : Option α) : Option α := if c then a else none
def xsw (x dflt lo hi : Int) (offs : Array Int) : Int := if x < lo ∨ hi < x then dflt else (offs[(x - lo).toNat]?).getD dflt
def xbr (c : ClassFile.Cond) (x y : Int32) (t f : Nat) : Nat := match c with
  | .eq => if x = y then t else f
  | .ne => if x = y then f else t
  | .lt => if x < y then t else f
  | .ge => if y ≤ x then t else f
  | .gt => if y < x then t else f
  | .le => if x ≤ y then t else f
def xb0 (c : ClassFile.Cond) (x : Int32) (t f : Nat) : Nat := match c with
  | .eq => if x = 0 then t else f
  | .ne => if x = 0 then f else t
  | .lt => if x < 0 then t else f
  | .ge => if 0 ≤ x then t else f
  | .gt => if 0 < x then t else f
  | .le => if x ≤ 0 then t else f
def xcw (st : List Value) : Nat := (st.map fun v => v.category).sum
/-- an instruction that is no call and no return -/
def xstp (d : Nat) (e : xEn) (pc : Nat) (ls : xLs) (st : List Value) (h : xHp) (n : Nat) : Option xRs := match e.1 with
  | .iconst _ => xgI (some e.2.2.2.2.1) fun x => xgo (pc + 1) ls (.int x :: st) h n
  | .bipush _ => xgI (some e.2.2.2.2.1) fun x => xgo (pc + 2) ls (.int x :: st) h n
  | .sipush _ => xgI (some e.2.2.2.2.1) fun x => xgo (pc + 3) ls (.int x :: st) h n
  | .ldc _ => xgI (some e.2.2.2.2.1) fun x => xgo (pc + 2) ls (.int x :: st) h n
  | .ldc_w _ => xgI (some e.2.2.2.2.1) fun x => xgo (pc + 3) ls (.int x :: st) h n
  | .lconst _ => xgL (some e.2.2.2.2.1) fun x => xgo (pc + 1) ls (.long x :: st) h n
  | .ldc2_w _ => xgL (some e.2.2.2.2.1) fun x => xgo (pc + 3) ls (.long x :: st) h n
  | .iload_n k => xgI (xld ls k) fun x => xgo (pc + 1) ls (.int x :: st) h n
  | .iload k => xgI (xld ls k) fun x => xgo (pc + 2) ls (.int x :: st) h n
  | .lload_n k => xgL (xld ls k) fun x => xgo (pc + 1) ls (.long x :: st) h n
  | .lload k => xgL (xld ls k) fun x => xgo (pc + 2) ls (.long x :: st) h n
  | .aload_n k => xgR (xld ls k) fun x => xgo (pc + 1) ls (.ref x :: st) h n
  | .aload k => xgR (xld ls k) fun x => xgo (pc + 2) ls (.ref x :: st) h n
  | .istore_n k => xpI st fun x r => xgo (pc + 1) (xst1 ls k (.int x)) r h n
  | .istore k => xpI st fun x r => xgo (pc + 2) (xst1 ls k (.int x)) r h n
  | .lstore_n k => xpL st fun x r => xgo (pc + 1) (xst2 ls k (.long x)) r h n
  | .lstore k => xpL st fun x r => xgo (pc + 2) (xst2 ls k (.long x)) r h n
  | .astore_n k => xpR st fun x r => xgo (pc + 1) (xst1 ls k (.ref x)) r h n
  | .astore k => xpR st fun x r => xgo (pc + 2) (xst1 ls k (.ref x)) r h n
  | .iinc k _ => xgI (xld ls k) fun x => xgI (some e.2.2.2.2.1) fun y => xgo (pc + 3) (xst1 ls k (.int (x + y))) st h n
  | .iadd => xpI st fun y r => xpI r fun x r => xgo (pc + 1) ls (.int (x + y) :: r) h n
  | .isub => xpI st fun y r => xpI r fun x r => xgo (pc + 1) ls (.int (x - y) :: r) h n
  | .imul => xpI st fun y r => xpI r fun x r => xgo (pc + 1) ls (.int (x * y) :: r) h n
  | .iand => xpI st fun y r => xpI r fun x r => xgo (pc + 1) ls (.int (x &&& y) :: r) h n
  | .ior => xpI st fun y r => xpI r fun x r => xgo (pc + 1) ls (.int (x ||| y) :: r) h n
  | .idiv => xpI st fun y r => xpI r fun x r => xgp (¬ y = 0) (xgo (pc + 1) ls (.int (x / y) :: r) h n)
  | .irem => xpI st fun y r => xpI r fun x r => xgp (¬ y = 0) (xgo (pc + 1) ls (.int (x - x / y * y) :: r) h n)
  | .ishl => xpI st fun y r => xpI r fun x r => xgo (pc + 1) ls (.int (x <<< (y &&& 31)) :: r) h n
  | .iushr => xpI st fun y r => xpI r fun x r => xgo (pc + 1) ls (.int (x.toUInt32 >>> (y.toUInt32 &&& Int32.toUInt32 31)).toInt32 :: r) h n
  | .lsub => xpL st fun y r => xpL r fun x r => xgo (pc + 1) ls (.long (x - y) :: r) h n
  | .land => xpL st fun y r => xpL r fun x r => xgo (pc + 1) ls (.long (x &&& y) :: r) h n
  | .lor => xpL st fun y r => xpL r fun x r => xgo (pc + 1) ls (.long (x ||| y) :: r) h n
  | .lshl => xpI st fun y r => xpL r fun x r => xgo (pc + 1) ls (.long (x <<< (y.toInt64 &&& 63)) :: r) h n
  | .lushr => xpI st fun y r => xpL r fun x r => xgo (pc + 1) ls (.long (x.toUInt64 >>> (y.toInt64.toUInt64 &&& Int64.toUInt64 63)).toInt64 :: r) h n
  | .lcmp => xpL st fun y r => xpL r fun x r => xgo (pc + 1) ls (.int (lg_cmp x y) :: r) h n
  | .i2l => xpI st fun x r => xgo (pc + 1) ls (.long x.toInt64 :: r) h n
  | .l2i => xpL st fun x r => xgo (pc + 1) ls (.int x.toInt32 :: r) h n
  | .i2c => xpI st fun x r => xgo (pc + 1) ls (.int (x.toUInt32 % 65536).toInt32 :: r) h n
  | .dup => xpV st fun v r => xgd (v.category == 1) (xgo (pc + 1) ls (v :: v :: r) h n)
  | .dup2 => xpV st fun v r => xpV r fun w r => xgd (v.category == 1) (xgd (w.category == 1) (xgo (pc + 1) ls (v :: w :: v :: w :: r) h n))
  | .pop => xpV st fun v r => xgd (v.category == 1) (xgo (pc + 1) ls r h n)
  | .goto _ => xgo e.2.2.1 ls st h n
  | .if_icmp c _ => xpI st fun y r => xpI r fun x r => xgo (xbr c x y e.2.2.1 (pc + 3)) ls r h n
  | .ifCond c _ => xpI st fun x r => xgo (xb0 c x e.2.2.1 (pc + 3)) ls r h n
  | .tableswitch df lo hi offs => xpI st fun x r => xgp (0 ≤ (pc : Int) + xsw x.toInt df lo hi offs) (xgo ((pc : Int) + xsw x.toInt df lo hi offs).toNat ls r h n)
  | .lookupswitch df ps => xpI st fun x r => xgp (0 ≤ (pc : Int) + Op.lookupswitch.offset ps.toList df x.toInt) (xgo ((pc : Int) + Op.lookupswitch.offset ps.toList df x.toInt).toNat ls r h n)
  | .getfield _ => xpR st fun k r => xcO (h k) fun ci fs => xgd (Nat.beq ci e.2.2.1) (xgO fs[e.2.2.2.1]? fun v => xgo (pc + 3) ls (v :: r) h n)
  | .putfield _ => xpV st fun v r => xpR r fun k r => xcO (h k) fun ci fs => xgd (Nat.beq ci e.2.2.1) (xgd (fits (xfty e.2.2.1 e.2.2.2.1) v) (xgd (Nat.blt e.2.2.2.1 fs.length) (xgo (pc + 3) ls r (xup h k (.inr (ci, fs.set e.2.2.2.1 v))) n)))
  | .getstatic _ => xgo (pc + 3) ls (.ref e.2.2.1 :: st) h n
  | .iaload => xpI st fun j r => xpR r fun k r => xcI (h k) fun t len f => xgd (Nat.beq t 0) (xgp (¬ (j < 0 ∨ len ≤ j.toNatClampNeg)) (xgo (pc + 1) ls (.int (f j.toNatClampNeg) :: r) h n))
  | .baload => xpI st fun j r => xpR r fun k r => xcI (h k) fun t len f => xgd (Nat.beq t 1) (xgp (¬ (j < 0 ∨ len ≤ j.toNatClampNeg)) (xgo (pc + 1) ls (.int (f j.toNatClampNeg) :: r) h n))
  | .caload => xpI st fun j r => xpR r fun k r => xcI (h k) fun t len f => xgd (Nat.beq t 2) (xgp (¬ (j < 0 ∨ len ≤ j.toNatClampNeg)) (xgo (pc + 1) ls (.int (f j.toNatClampNeg) :: r) h n))
  | .iastore => xpI st fun x r => xpI r fun j r => xpR r fun k r => xcI (h k) fun t len f => xgd (Nat.ble 3 k) (xgd (Nat.beq t 0) (xgp (¬ (j < 0 ∨ len ≤ j.toNatClampNeg)) (xgo (pc + 1) ls r (xup h k (.inl (0, len, .inl (upd f j.toNatClampNeg x)))) n)))
  | .bastore => xpI st fun x r => xpI r fun j r => xpR r fun k r => xcI (h k) fun t len f => xgd (Nat.ble 3 k) (xgd (Nat.beq t 1) (xgp (¬ (j < 0 ∨ len ≤ j.toNatClampNeg)) (xgo (pc + 1) ls r (xup h k (.inl (1, len, .inl (upd f j.toNatClampNeg (vp_nar .boolean x))))) n)))
  | .castore => xpI st fun x r => xpI r fun j r => xpR r fun k r => xcI (h k) fun t len f => xgd (Nat.ble 3 k) (xgd (Nat.beq t 2) (xgp (¬ (j < 0 ∨ len ≤ j.toNatClampNeg)) (xgo (pc + 1) ls r (xup h k (.inl (2, len, .inl (upd f j.toNatClampNeg (vp_nar .char x))))) n)))
  | .aaload => xpI st fun j r => xpR r fun k r => xcQ (h k) fun t len f => xgd (Nat.beq t 3 || Nat.beq t 4) (xgp (¬ (j < 0 ∨ len ≤ j.toNatClampNeg)) (xgO (f j.toNatClampNeg) fun q => xgo (pc + 1) ls (.ref q :: r) h n))
  | .aastore => xpR st fun v r => xpI r fun j r => xpR r fun k r => xcQ (h k) fun t len f => xcO (h v) fun ci _ => xgd ((Nat.beq t 3 && Nat.beq ci 2) || (Nat.beq t 4 && Nat.beq ci 0)) (xgp (¬ (j < 0 ∨ len ≤ j.toNatClampNeg)) (xgo (pc + 1) ls r (xup h k (.inl (t, len, .inr (va_up f j.toNatClampNeg (some v))))) n))
  | .arraylength => xpR st fun k r => xcN (h k) fun t len => xgd (Nat.ble t 4) <| xgo (pc + 1) ls (.int (Int32.ofNat len) :: r) h n
  | .new _ => some (pc + 3, ls, .ref n :: st, xup h n (.inr (e.2.2.1, xdef e.2.2.1)), n + 1, 1, xcls e.2.2.1)
  | .newarray _ => xpI st fun m r => xgp (¬ m < 0) (xgd (Nat.ble m.toNatClampNeg 65536) (some (pc + 2, ls, .ref n :: r, xup h n (.inl (e.2.2.1, m.toNatClampNeg, .inl (fun _ => 0))), n + 1, 1, m.toNatClampNeg)))
  | .anewarray _ => xpI st fun m r => xgp (¬ m < 0) (xgd (Nat.ble m.toNatClampNeg 65536) (some (pc + 3, ls, .ref n :: r, xup h n (.inl (e.2.2.1, m.toNatClampNeg, .inr (fun _ => none))), n + 1, 1, m.toNatClampNeg)))
  | .invokespecial _ => xgd (Nat.beq e.2.2.1 1000) (xpR st fun _ r => xgd (Nat.ble (xcw r) 8) (xgd (Nat.ble 1 d) (xgo (pc + 3) ls r h n)))
  | .invokestatic _ => cond (Nat.beq e.2.2.1 1002) (xpI st fun y r => xpI r fun x r => xgd (Nat.ble (xcw r) 8 && Nat.ble 1 d) (xgo (pc + 3) ls (.int (if y < x then y else x) :: r) h n))
      (xgd (Nat.beq e.2.2.1 1001) (xpI st fun m r => xpI r fun dp r => xpR r fun k1 r => xpI r fun sp r => xpR r fun k0 r => xcI (h k0) fun t0 n0 f => xcI (h k1) fun t1 n1 g =>
      xgd (Nat.ble 3 k0 && (Nat.ble 3 k1 && (Nat.beq t0 0 && (Nat.beq t1 0 && (Nat.ble (xcw r) 8 && Nat.ble 1 d))))) (xgp (¬ sp < 0 ∧ ¬ dp < 0 ∧ ¬ m < 0 ∧ sp.toNatClampNeg + m.toNatClampNeg ≤ n0 ∧ dp.toNatClampNeg + m.toNatClampNeg ≤ n1) (xgo (pc + 3) ls r (xup h k1 (.inl (0, n1, .inl (va_cpy f g sp.toNatClampNeg dp.toNatClampNeg m.toNatClampNeg)))) n))))
  | _ => none
/-- what an instruction is: 0 a return, 1 a call, 2 another -/
def xkind (e : xEn) : Nat := match e.1 with
  | .ireturn => 0
  | .lreturn => 0
  | .return_ => 0
  | .invokevirtual _ => 1
  | .invokestatic _ => cond (Nat.ble 1000 e.2.2.1) 2 1
  | .invokespecial _ => cond (Nat.ble 1000 e.2.2.1) 2 1
  | _ => 2
def xnok (ty : FieldType) (x : Int32) : Bool := match ty with | .int => true | t => decide (narrow t (.int x) = .int x)
/-- a return: the answer, if it is one of the method's type -/
def xret (i : Nat) (e : xEn) (st : List Value) : Option (Option Value) := match e.1 with
  | .ireturn => xpI st fun x r => xgd (List.isEmpty r) (match (xMt i).2.2.2.1 with | some ty => xgd (xnok ty x) (some (some (.int x))) | none => none)
  | .lreturn => xpL st fun x r => xgd (List.isEmpty r) (match (xMt i).2.2.2.1 with | some .long => some (some (.long x)) | _ => none)
  | .return_ => xgd (List.isEmpty st) (match (xMt i).2.2.2.1 with | none => some none | some _ => none)
  | _ => none
/-- a call: the method's number, its arguments, what stays on the stack -/
def xcall (e : xEn) (st : List Value) (h : xHp) : Option (Nat × List Value × List Value) := match e.1 with
  | .invokestatic _ => xgd (Nat.ble e.2.2.2.1 st.length) (xgd (Nat.ble (xcw (st.drop e.2.2.2.1)) 8) (xgd (Nat.ble (xcw (st.take e.2.2.2.1).reverse) (xMt e.2.2.1).2.2.1) (some (e.2.2.1, (st.take e.2.2.2.1).reverse, st.drop e.2.2.2.1))))
  | .invokevirtual _ => xpR (st.drop e.2.2.2.1) fun b r => xcO (h b) fun ci _ => xgd (Nat.ble e.2.2.2.1 st.length) (xgd (Nat.ble (xcw r) 8) (xgd (Nat.beq ci (xcm e.2.2.1)) (xgd (Nat.ble (xcw (.ref b :: (st.take e.2.2.2.1).reverse)) (xMt e.2.2.1).2.2.1) (some (e.2.2.1, .ref b :: (st.take e.2.2.2.1).reverse, r)))))
  | .invokespecial _ => xpR (st.drop e.2.2.2.1) fun b r => xgd (Nat.ble e.2.2.2.1 st.length) (xgd (Nat.ble (xcw r) 8) (xgd (Nat.ble (xcw (.ref b :: (st.take e.2.2.2.1).reverse)) (xMt e.2.2.1).2.2.1) (some (e.2.2.1, .ref b :: (st.take e.2.2.2.1).reverse, r))))
  | _ => none
def xfind (i pc : Nat) : Option xEn := cond (Nat.ble pc ((xMt i).2.2.2.2.2.2.2 - 1)) (xI i pc) none
abbrev xOut : Type := Nat × List Value × Option Value × xHp × Nat × Nat × Nat
def xadd (kc ks : Nat) (r : Option xOut) : Option xOut := match r with | some (q, sq, v, h, n, a, b) => some (q, sq, v, h, n, kc + a, ks + b) | none => none
/-- a method's run: fuel, depth, the method, where it stands -/
def xex : Nat → Nat → Nat → Nat → xLs → List Value → xHp → Nat → Option xOut
  | 0, _, _, _, _, _, _, _ => none
  | f + 1, d, i, pc, ls, st, h, n => match xfind i pc with
    | none => none
    | some e => match xkind e with
      | 0 => (match xret i e st with | some v => some (pc, st, v, h, n, 0, 0) | none => none)
      | 1 => (match xcall e st h with
        | none => none
        | some (j, as, r) => (match d with
          | 0 => none
          | d' + 1 => (match xex f d' j 0 (lv_args 0 as) [] h n with
            | none => none
            | some (_, _, v, h1, n1, kc, ks) => xadd kc ks (xex f d i (pc + 3) ls (v.toList ++ r) h1 n1))))
      | _ => (match xstp d e pc ls st h n with
        | none => none
        | some (pc1, ls1, st1, h1, n1, kc, ks) => xadd kc ks (xex f d i pc1 ls1 st1 h1 n1))
end
section
/-! what a program checks of each instruction: it decodes so, its words stand in the tables -/
def xT : List Jvm.Cond := lw_tbl.filter goodWord
def xw (p : Nat) (w : Jvm.Cond) : Bool := decide (lw_tbl[p]? = some w) && goodWord w
theorem xw_mem {p : Nat} {w : Jvm.Cond} (h : xw p w = true) : w ∈ xT := by
  simp only [xw, Bool.and_eq_true, decide_eq_true_eq] at h
  exact List.mem_filter.mpr ⟨List.mem_of_getElem? h.1, h.2⟩
def xvI (v : Value) (x : Int32) : Bool := match v with | .int y => decide (x = y) | _ => false
def xvL (v : Value) (x : Int64) : Bool := match v with | .long y => decide (x = y) | _ => false
def xnm (y : MethodName) (n : Nat) : Bool := decide ((parseMethodDescriptor y.desc).map (fun d => d.parameters.length) = some n)
def xfl (i : Nat) (e : xEn) (idx : Nat) : Bool := match xcl[e.2.2.1]? with
  | some (C, T, N) => Nat.blt e.2.2.2.1 N && xw (e.2.2.2.2.2.getD 0 0) (.fieldLink (xMt i).1.cls idx C (T e.2.2.2.1).2.1 (T e.2.2.2.1).2.2.1)
  | none => false
def xff (i : Nat) (e : xEn) : Bool := match xcl[e.2.2.1]? with
  | some (C, T, _) => !(T e.2.2.2.1).2.2.2 || (decide ((xMt i).1.name = "<init>") && decide ((xMt i).1.cls = C))
  | none => false
def xchi (i pc : Nat) (e : xEn) : Bool := match e.1 with
  | .iconst m => Nat.beq e.2.1 1 && xvI e.2.2.2.2.1 (Int32.ofInt m)
  | .bipush m => Nat.beq e.2.1 2 && xvI e.2.2.2.2.1 (Int8.ofInt m).toInt32
  | .sipush m => Nat.beq e.2.1 3 && xvI e.2.2.2.2.1 (Int16.ofInt m).toInt32
  | .ldc idx => Nat.beq e.2.1 2 && (match e.2.2.2.2.1 with | .int x => xw (e.2.2.2.2.2.getD 0 0) (.constant (xMt i).1.cls idx x) | _ => false)
  | .ldc_w idx => Nat.beq e.2.1 3 && (match e.2.2.2.2.1 with | .int x => xw (e.2.2.2.2.2.getD 0 0) (.constant (xMt i).1.cls idx x) | _ => false)
  | .lconst m => Nat.beq e.2.1 1 && xvL e.2.2.2.2.1 (Int64.ofNat (m : Nat))
  | .ldc2_w idx => Nat.beq e.2.1 3 && (match e.2.2.2.2.1 with | .long x => xw (e.2.2.2.2.2.getD 0 0) (.constantLong (xMt i).1.cls idx x) | _ => false)
  | .iload _ => Nat.beq e.2.1 2
  | .lload _ => Nat.beq e.2.1 2
  | .aload _ => Nat.beq e.2.1 2
  | .istore_n k => Nat.beq e.2.1 1 && Nat.blt k (xMt i).2.2.1
  | .astore_n k => Nat.beq e.2.1 1 && Nat.blt k (xMt i).2.2.1
  | .lstore_n k => Nat.beq e.2.1 1 && Nat.blt (k + 1) (xMt i).2.2.1
  | .istore k => Nat.beq e.2.1 2 && Nat.blt k (xMt i).2.2.1
  | .astore k => Nat.beq e.2.1 2 && Nat.blt k (xMt i).2.2.1
  | .lstore k => Nat.beq e.2.1 2 && Nat.blt (k + 1) (xMt i).2.2.1
  | .iinc k m => Nat.beq e.2.1 3 && (Nat.blt k (xMt i).2.2.1 && xvI e.2.2.2.2.1 (Int32.ofInt m))
  | .goto off => Nat.beq e.2.1 3 && decide ((pc : Int) + off = (e.2.2.1 : Int))
  | .if_icmp _ off => Nat.beq e.2.1 3 && decide ((pc : Int) + off = (e.2.2.1 : Int))
  | .ifCond _ off => Nat.beq e.2.1 3 && decide ((pc : Int) + off = (e.2.2.1 : Int))
  | .tableswitch df lo hi offs => decide (offs.size = (hi - lo + 1).toNat) && decide (lo ≤ hi)
  | .lookupswitch _ ps => (ps.toList.zip (ps.toList.drop 1)).all (fun q => decide (q.1.1 < q.2.1))
  | .getfield idx => Nat.beq e.2.1 3 && xfl i e idx
  | .putfield idx => Nat.beq e.2.1 3 && (xfl i e idx && xff i e)
  | .getstatic idx => Nat.beq e.2.1 3 && (decide ((xMt i).1.cls = "BraidHorns$Track") && ((Nat.beq idx 121 && Nat.beq e.2.2.1 1) || (Nat.beq idx 95 && Nat.beq e.2.2.1 2)))
  | .new idx => Nat.beq e.2.1 3 && (match xcl[e.2.2.1]? with
      | some (C, _, N) => xw (e.2.2.2.2.2.getD 0 0) (.classLink (xMt i).1.cls idx C) && (xw (e.2.2.2.2.2.getD 1 0) (.instantiable C N) && xw (e.2.2.2.2.2.getD 2 0) (.initialized C))
      | none => false)
  | .newarray t => Nat.beq e.2.1 2 && (xw (e.2.2.2.2.2.getD 0 0) (.arrayClass (newarray.typeOf t)) && (match t with | .int => Nat.beq e.2.2.1 0 | .boolean => Nat.beq e.2.2.1 1 | .char => Nat.beq e.2.2.1 2 | _ => false))
  | .anewarray idx => Nat.beq e.2.1 3 && ((Nat.beq e.2.2.1 3 && xw (e.2.2.2.2.2.getD 0 0) (.classLink (xMt i).1.cls idx "BraidHorns$Track")) || (Nat.beq e.2.2.1 4 && xw (e.2.2.2.2.2.getD 0 0) (.classLink (xMt i).1.cls idx "BraidHorns$Carrier")))
  | .invokevirtual idx => Nat.beq e.2.1 3 && (Nat.blt e.2.2.1 154 && (xnm (xMt e.2.2.1).1 e.2.2.2.1 && (decide ((xcl[xcm e.2.2.1]?).map (fun q => q.1) = some (xMt e.2.2.1).1.cls) && (xw (e.2.2.2.2.2.getD 0 0) (.methodLink (xMt i).1.cls idx (xMt e.2.2.1).1) && (xw (e.2.2.2.2.2.getD 1 0) (.instanceMethod (xMt e.2.2.1).1) && (xw (e.2.2.2.2.2.getD 2 0) (.selects (xMt e.2.2.1).1.cls (xMt e.2.2.1).1 (xMt e.2.2.1).1) && xw (e.2.2.2.2.2.getD 3 0) (.initialized (xMt e.2.2.1).1.cls)))))))
  | .invokestatic idx => Nat.beq e.2.1 3 && cond (Nat.ble 1000 e.2.2.1) (cond (Nat.beq e.2.2.1 1002) (xw (e.2.2.2.2.2.getD 0 0) (.methodLink (xMt i).1.cls idx Lib.Math.min.name) && (xw (e.2.2.2.2.2.getD 1 0) (.static Lib.Math.min.name) && (xw (e.2.2.2.2.2.getD 2 0) (.initialized "java/lang/Math") && xw (e.2.2.2.2.2.getD 3 0) (.code Lib.Math.min.name Lib.Math.min.code 2 (some .int))))) (xw (e.2.2.2.2.2.getD 0 0) (.methodLink (xMt i).1.cls idx arraycopyName) && (xw (e.2.2.2.2.2.getD 1 0) (.native arraycopyName) && (xw (e.2.2.2.2.2.getD 2 0) (.static arraycopyName) && xw (e.2.2.2.2.2.getD 3 0) (.initialized "java/lang/System")))))
      (Nat.blt e.2.2.1 154 && (xnm (xMt e.2.2.1).1 e.2.2.2.1 && (xw (e.2.2.2.2.2.getD 0 0) (.methodLink (xMt i).1.cls idx (xMt e.2.2.1).1) && (xw (e.2.2.2.2.2.getD 1 0) (.static (xMt e.2.2.1).1) && xw (e.2.2.2.2.2.getD 2 0) (.initialized (xMt e.2.2.1).1.cls)))))
  | .invokespecial idx => Nat.beq e.2.1 3 && cond (Nat.ble 1000 e.2.2.1) (xw (e.2.2.2.2.2.getD 0 0) (.methodLink (xMt i).1.cls idx objectInit) && (xw (e.2.2.2.2.2.getD 1 0) (.instanceMethod objectInit) && xw (e.2.2.2.2.2.getD 2 0) (.code objectInit ⟨#[0xb1]⟩ 1 none)))
      (Nat.blt e.2.2.1 154 && (xnm (xMt e.2.2.1).1 e.2.2.2.1 && (decide ((xMt e.2.2.1).1.name = "<init>") && (decide ((xMt e.2.2.1).2.2.2.1 = none) && (cond (decide ((xMt i).1.cls = "BraidHorns$Track")) (Nat.beq idx 21 && decide ((xMt e.2.2.1).1 = ⟨"BraidHorns$Carrier", "<init>", "()V"⟩)) (xw (e.2.2.2.2.2.getD 0 0) (.methodLink (xMt i).1.cls idx (xMt e.2.2.1).1)) && (xw (e.2.2.2.2.2.getD 1 0) (.instanceMethod (xMt e.2.2.1).1) && xw (e.2.2.2.2.2.getD 2 0) (.initialized (xMt e.2.2.1).1.cls)))))))
  | _ => Nat.beq e.2.1 1
def xchk (i pc : Nat) (e : xEn) : Bool := decide (decode (xMt i).2.1 pc = .ok (e.1, e.2.1)) && xchi i pc e
def xmok (j : Nat) : Bool := (decide ((xMt j).1.cls ≠ "java/lang/invoke/MethodHandle") && (decide ((xMt j).1.cls ≠ "java/lang/invoke/VarHandle") && (plainName (xMt j).1.cls && Nat.ble (xMt j).2.2.1 15)))
def xckm (i : Nat) : Bool := (List.range (xMt i).2.2.2.2.2.2.2).all (fun pc => match xI i pc with | none => true | some e => xchk i pc e)
end
section
/-! the checks of methods, by a program (kernel) -/
theorem xck_0 : (List.range' 0 13).all xckm = true := by decide +kernel
theorem xck_13 : (List.range' 13 13).all xckm = true := by decide +kernel
theorem xck_26 : (List.range' 26 13).all xckm = true := by decide +kernel
end
section
/-! the checks of methods, by a program (kernel) -/
theorem xck_39 : (List.range' 39 13).all xckm = true := by decide +kernel
theorem xck_52 : (List.range' 52 13).all xckm = true := by decide +kernel
theorem xck_65 : (List.range' 65 13).all xckm = true := by decide +kernel
end
section
/-! the checks of methods, by a program (kernel) -/
theorem xck_78 : (List.range' 78 13).all xckm = true := by decide +kernel
theorem xck_91 : (List.range' 91 13).all xckm = true := by decide +kernel
theorem xck_104 : (List.range' 104 13).all xckm = true := by decide +kernel
end
section
/-! the checks of methods, by a program (kernel) -/
theorem xck_117 : (List.range' 117 13).all xckm = true := by decide +kernel
theorem xck_130 : (List.range' 130 13).all xckm = true := by decide +kernel
theorem xck_143 : (List.range' 143 7).all xckm = true := by decide +kernel
end
section
/-! the checks of methods, by a program (kernel) -/
theorem xck_150 : (List.range' 150 5).all xckm = true := by decide +kernel
theorem xck_155 : (List.range' 155 1).all xckm = true := by decide +kernel
end
section
/-! the code words of methods, by their places -/
set_option maxRecDepth 100000 in
theorem xmc_0 : lw_tbl[(xMt 0).2.2.2.2.2.1]? = some (Jvm.Cond.code (xMt 0).1 (xMt 0).2.1 (xMt 0).2.2.1 (xMt 0).2.2.2.1) := rfl
set_option maxRecDepth 100000 in
theorem xmc_1 : lw_tbl[(xMt 1).2.2.2.2.2.1]? = some (Jvm.Cond.code (xMt 1).1 (xMt 1).2.1 (xMt 1).2.2.1 (xMt 1).2.2.2.1) := rfl
set_option maxRecDepth 100000 in
theorem xmc_2 : lw_tbl[(xMt 2).2.2.2.2.2.1]? = some (Jvm.Cond.code (xMt 2).1 (xMt 2).2.1 (xMt 2).2.2.1 (xMt 2).2.2.2.1) := rfl
set_option maxRecDepth 100000 in
theorem xmc_3 : lw_tbl[(xMt 3).2.2.2.2.2.1]? = some (Jvm.Cond.code (xMt 3).1 (xMt 3).2.1 (xMt 3).2.2.1 (xMt 3).2.2.2.1) := rfl
set_option maxRecDepth 100000 in
theorem xmc_4 : lw_tbl[(xMt 4).2.2.2.2.2.1]? = some (Jvm.Cond.code (xMt 4).1 (xMt 4).2.1 (xMt 4).2.2.1 (xMt 4).2.2.2.1) := rfl
set_option maxRecDepth 100000 in
theorem xmc_5 : lw_tbl[(xMt 5).2.2.2.2.2.1]? = some (Jvm.Cond.code (xMt 5).1 (xMt 5).2.1 (xMt 5).2.2.1 (xMt 5).2.2.2.1) := rfl
set_option maxRecDepth 100000 in
theorem xmc_6 : lw_tbl[(xMt 6).2.2.2.2.2.1]? = some (Jvm.Cond.code (xMt 6).1 (xMt 6).2.1 (xMt 6).2.2.1 (xMt 6).2.2.2.1) := rfl
set_option maxRecDepth 100000 in
theorem xmc_7 : lw_tbl[(xMt 7).2.2.2.2.2.1]? = some (Jvm.Cond.code (xMt 7).1 (xMt 7).2.1 (xMt 7).2.2.1 (xMt 7).2.2.2.1) := rfl
set_option maxRecDepth 100000 in
theorem xmc_8 : lw_tbl[(xMt 8).2.2.2.2.2.1]? = some (Jvm.Cond.code (xMt 8).1 (xMt 8).2.1 (xMt 8).2.2.1 (xMt 8).2.2.2.1) := rfl
set_option maxRecDepth 100000 in
theorem xmc_9 : lw_tbl[(xMt 9).2.2.2.2.2.1]? = some (Jvm.Cond.code (xMt 9).1 (xMt 9).2.1 (xMt 9).2.2.1 (xMt 9).2.2.2.1) := rfl
set_option maxRecDepth 100000 in
theorem xmc_10 : lw_tbl[(xMt 10).2.2.2.2.2.1]? = some (Jvm.Cond.code (xMt 10).1 (xMt 10).2.1 (xMt 10).2.2.1 (xMt 10).2.2.2.1) := rfl
set_option maxRecDepth 100000 in
theorem xmc_11 : lw_tbl[(xMt 11).2.2.2.2.2.1]? = some (Jvm.Cond.code (xMt 11).1 (xMt 11).2.1 (xMt 11).2.2.1 (xMt 11).2.2.2.1) := rfl
set_option maxRecDepth 100000 in
theorem xmc_12 : lw_tbl[(xMt 12).2.2.2.2.2.1]? = some (Jvm.Cond.code (xMt 12).1 (xMt 12).2.1 (xMt 12).2.2.1 (xMt 12).2.2.2.1) := rfl
set_option maxRecDepth 100000 in
theorem xmc_13 : lw_tbl[(xMt 13).2.2.2.2.2.1]? = some (Jvm.Cond.code (xMt 13).1 (xMt 13).2.1 (xMt 13).2.2.1 (xMt 13).2.2.2.1) := rfl
set_option maxRecDepth 100000 in
theorem xmc_14 : lw_tbl[(xMt 14).2.2.2.2.2.1]? = some (Jvm.Cond.code (xMt 14).1 (xMt 14).2.1 (xMt 14).2.2.1 (xMt 14).2.2.2.1) := rfl
set_option maxRecDepth 100000 in
theorem xmc_15 : lw_tbl[(xMt 15).2.2.2.2.2.1]? = some (Jvm.Cond.code (xMt 15).1 (xMt 15).2.1 (xMt 15).2.2.1 (xMt 15).2.2.2.1) := rfl
set_option maxRecDepth 100000 in
theorem xmc_16 : lw_tbl[(xMt 16).2.2.2.2.2.1]? = some (Jvm.Cond.code (xMt 16).1 (xMt 16).2.1 (xMt 16).2.2.1 (xMt 16).2.2.2.1) := rfl
set_option maxRecDepth 100000 in
theorem xmc_17 : lw_tbl[(xMt 17).2.2.2.2.2.1]? = some (Jvm.Cond.code (xMt 17).1 (xMt 17).2.1 (xMt 17).2.2.1 (xMt 17).2.2.2.1) := rfl
set_option maxRecDepth 100000 in
theorem xmc_18 : lw_tbl[(xMt 18).2.2.2.2.2.1]? = some (Jvm.Cond.code (xMt 18).1 (xMt 18).2.1 (xMt 18).2.2.1 (xMt 18).2.2.2.1) := rfl
set_option maxRecDepth 100000 in
theorem xmc_19 : lw_tbl[(xMt 19).2.2.2.2.2.1]? = some (Jvm.Cond.code (xMt 19).1 (xMt 19).2.1 (xMt 19).2.2.1 (xMt 19).2.2.2.1) := rfl
set_option maxRecDepth 100000 in
theorem xmc_20 : lw_tbl[(xMt 20).2.2.2.2.2.1]? = some (Jvm.Cond.code (xMt 20).1 (xMt 20).2.1 (xMt 20).2.2.1 (xMt 20).2.2.2.1) := rfl
set_option maxRecDepth 100000 in
theorem xmc_21 : lw_tbl[(xMt 21).2.2.2.2.2.1]? = some (Jvm.Cond.code (xMt 21).1 (xMt 21).2.1 (xMt 21).2.2.1 (xMt 21).2.2.2.1) := rfl
set_option maxRecDepth 100000 in
theorem xmc_22 : lw_tbl[(xMt 22).2.2.2.2.2.1]? = some (Jvm.Cond.code (xMt 22).1 (xMt 22).2.1 (xMt 22).2.2.1 (xMt 22).2.2.2.1) := rfl
set_option maxRecDepth 100000 in
theorem xmc_23 : lw_tbl[(xMt 23).2.2.2.2.2.1]? = some (Jvm.Cond.code (xMt 23).1 (xMt 23).2.1 (xMt 23).2.2.1 (xMt 23).2.2.2.1) := rfl
set_option maxRecDepth 100000 in
theorem xmc_24 : lw_tbl[(xMt 24).2.2.2.2.2.1]? = some (Jvm.Cond.code (xMt 24).1 (xMt 24).2.1 (xMt 24).2.2.1 (xMt 24).2.2.2.1) := rfl
set_option maxRecDepth 100000 in
theorem xmc_25 : lw_tbl[(xMt 25).2.2.2.2.2.1]? = some (Jvm.Cond.code (xMt 25).1 (xMt 25).2.1 (xMt 25).2.2.1 (xMt 25).2.2.2.1) := rfl
set_option maxRecDepth 100000 in
theorem xmc_26 : lw_tbl[(xMt 26).2.2.2.2.2.1]? = some (Jvm.Cond.code (xMt 26).1 (xMt 26).2.1 (xMt 26).2.2.1 (xMt 26).2.2.2.1) := rfl
set_option maxRecDepth 100000 in
theorem xmc_27 : lw_tbl[(xMt 27).2.2.2.2.2.1]? = some (Jvm.Cond.code (xMt 27).1 (xMt 27).2.1 (xMt 27).2.2.1 (xMt 27).2.2.2.1) := rfl
set_option maxRecDepth 100000 in
theorem xmc_28 : lw_tbl[(xMt 28).2.2.2.2.2.1]? = some (Jvm.Cond.code (xMt 28).1 (xMt 28).2.1 (xMt 28).2.2.1 (xMt 28).2.2.2.1) := rfl
set_option maxRecDepth 100000 in
theorem xmc_29 : lw_tbl[(xMt 29).2.2.2.2.2.1]? = some (Jvm.Cond.code (xMt 29).1 (xMt 29).2.1 (xMt 29).2.2.1 (xMt 29).2.2.2.1) := rfl
set_option maxRecDepth 100000 in
theorem xmc_30 : lw_tbl[(xMt 30).2.2.2.2.2.1]? = some (Jvm.Cond.code (xMt 30).1 (xMt 30).2.1 (xMt 30).2.2.1 (xMt 30).2.2.2.1) := rfl
set_option maxRecDepth 100000 in
theorem xmc_31 : lw_tbl[(xMt 31).2.2.2.2.2.1]? = some (Jvm.Cond.code (xMt 31).1 (xMt 31).2.1 (xMt 31).2.2.1 (xMt 31).2.2.2.1) := rfl
set_option maxRecDepth 100000 in
theorem xmc_32 : lw_tbl[(xMt 32).2.2.2.2.2.1]? = some (Jvm.Cond.code (xMt 32).1 (xMt 32).2.1 (xMt 32).2.2.1 (xMt 32).2.2.2.1) := rfl
set_option maxRecDepth 100000 in
theorem xmc_33 : lw_tbl[(xMt 33).2.2.2.2.2.1]? = some (Jvm.Cond.code (xMt 33).1 (xMt 33).2.1 (xMt 33).2.2.1 (xMt 33).2.2.2.1) := rfl
set_option maxRecDepth 100000 in
theorem xmc_34 : lw_tbl[(xMt 34).2.2.2.2.2.1]? = some (Jvm.Cond.code (xMt 34).1 (xMt 34).2.1 (xMt 34).2.2.1 (xMt 34).2.2.2.1) := rfl
set_option maxRecDepth 100000 in
theorem xmc_35 : lw_tbl[(xMt 35).2.2.2.2.2.1]? = some (Jvm.Cond.code (xMt 35).1 (xMt 35).2.1 (xMt 35).2.2.1 (xMt 35).2.2.2.1) := rfl
set_option maxRecDepth 100000 in
theorem xmc_36 : lw_tbl[(xMt 36).2.2.2.2.2.1]? = some (Jvm.Cond.code (xMt 36).1 (xMt 36).2.1 (xMt 36).2.2.1 (xMt 36).2.2.2.1) := rfl
set_option maxRecDepth 100000 in
theorem xmc_37 : lw_tbl[(xMt 37).2.2.2.2.2.1]? = some (Jvm.Cond.code (xMt 37).1 (xMt 37).2.1 (xMt 37).2.2.1 (xMt 37).2.2.2.1) := rfl
set_option maxRecDepth 100000 in
theorem xmc_38 : lw_tbl[(xMt 38).2.2.2.2.2.1]? = some (Jvm.Cond.code (xMt 38).1 (xMt 38).2.1 (xMt 38).2.2.1 (xMt 38).2.2.2.1) := rfl
set_option maxRecDepth 100000 in
theorem xmc_39 : lw_tbl[(xMt 39).2.2.2.2.2.1]? = some (Jvm.Cond.code (xMt 39).1 (xMt 39).2.1 (xMt 39).2.2.1 (xMt 39).2.2.2.1) := rfl
set_option maxRecDepth 100000 in
theorem xmc_40 : lw_tbl[(xMt 40).2.2.2.2.2.1]? = some (Jvm.Cond.code (xMt 40).1 (xMt 40).2.1 (xMt 40).2.2.1 (xMt 40).2.2.2.1) := rfl
set_option maxRecDepth 100000 in
theorem xmc_41 : lw_tbl[(xMt 41).2.2.2.2.2.1]? = some (Jvm.Cond.code (xMt 41).1 (xMt 41).2.1 (xMt 41).2.2.1 (xMt 41).2.2.2.1) := rfl
set_option maxRecDepth 100000 in
theorem xmc_42 : lw_tbl[(xMt 42).2.2.2.2.2.1]? = some (Jvm.Cond.code (xMt 42).1 (xMt 42).2.1 (xMt 42).2.2.1 (xMt 42).2.2.2.1) := rfl
set_option maxRecDepth 100000 in
theorem xmc_43 : lw_tbl[(xMt 43).2.2.2.2.2.1]? = some (Jvm.Cond.code (xMt 43).1 (xMt 43).2.1 (xMt 43).2.2.1 (xMt 43).2.2.2.1) := rfl
set_option maxRecDepth 100000 in
theorem xmc_44 : lw_tbl[(xMt 44).2.2.2.2.2.1]? = some (Jvm.Cond.code (xMt 44).1 (xMt 44).2.1 (xMt 44).2.2.1 (xMt 44).2.2.2.1) := rfl
set_option maxRecDepth 100000 in
theorem xmc_45 : lw_tbl[(xMt 45).2.2.2.2.2.1]? = some (Jvm.Cond.code (xMt 45).1 (xMt 45).2.1 (xMt 45).2.2.1 (xMt 45).2.2.2.1) := rfl
set_option maxRecDepth 100000 in
theorem xmc_46 : lw_tbl[(xMt 46).2.2.2.2.2.1]? = some (Jvm.Cond.code (xMt 46).1 (xMt 46).2.1 (xMt 46).2.2.1 (xMt 46).2.2.2.1) := rfl
set_option maxRecDepth 100000 in
theorem xmc_47 : lw_tbl[(xMt 47).2.2.2.2.2.1]? = some (Jvm.Cond.code (xMt 47).1 (xMt 47).2.1 (xMt 47).2.2.1 (xMt 47).2.2.2.1) := rfl
set_option maxRecDepth 100000 in
theorem xmc_48 : lw_tbl[(xMt 48).2.2.2.2.2.1]? = some (Jvm.Cond.code (xMt 48).1 (xMt 48).2.1 (xMt 48).2.2.1 (xMt 48).2.2.2.1) := rfl
set_option maxRecDepth 100000 in
theorem xmc_49 : lw_tbl[(xMt 49).2.2.2.2.2.1]? = some (Jvm.Cond.code (xMt 49).1 (xMt 49).2.1 (xMt 49).2.2.1 (xMt 49).2.2.2.1) := rfl
set_option maxRecDepth 100000 in
theorem xmc_50 : lw_tbl[(xMt 50).2.2.2.2.2.1]? = some (Jvm.Cond.code (xMt 50).1 (xMt 50).2.1 (xMt 50).2.2.1 (xMt 50).2.2.2.1) := rfl
set_option maxRecDepth 100000 in
theorem xmc_51 : lw_tbl[(xMt 51).2.2.2.2.2.1]? = some (Jvm.Cond.code (xMt 51).1 (xMt 51).2.1 (xMt 51).2.2.1 (xMt 51).2.2.2.1) := rfl
set_option maxRecDepth 100000 in
theorem xmc_52 : lw_tbl[(xMt 52).2.2.2.2.2.1]? = some (Jvm.Cond.code (xMt 52).1 (xMt 52).2.1 (xMt 52).2.2.1 (xMt 52).2.2.2.1) := rfl
set_option maxRecDepth 100000 in
theorem xmc_53 : lw_tbl[(xMt 53).2.2.2.2.2.1]? = some (Jvm.Cond.code (xMt 53).1 (xMt 53).2.1 (xMt 53).2.2.1 (xMt 53).2.2.2.1) := rfl
set_option maxRecDepth 100000 in
theorem xmc_54 : lw_tbl[(xMt 54).2.2.2.2.2.1]? = some (Jvm.Cond.code (xMt 54).1 (xMt 54).2.1 (xMt 54).2.2.1 (xMt 54).2.2.2.1) := rfl
set_option maxRecDepth 100000 in
theorem xmc_55 : lw_tbl[(xMt 55).2.2.2.2.2.1]? = some (Jvm.Cond.code (xMt 55).1 (xMt 55).2.1 (xMt 55).2.2.1 (xMt 55).2.2.2.1) := rfl
set_option maxRecDepth 100000 in
theorem xmc_56 : lw_tbl[(xMt 56).2.2.2.2.2.1]? = some (Jvm.Cond.code (xMt 56).1 (xMt 56).2.1 (xMt 56).2.2.1 (xMt 56).2.2.2.1) := rfl
set_option maxRecDepth 100000 in
theorem xmc_57 : lw_tbl[(xMt 57).2.2.2.2.2.1]? = some (Jvm.Cond.code (xMt 57).1 (xMt 57).2.1 (xMt 57).2.2.1 (xMt 57).2.2.2.1) := rfl
set_option maxRecDepth 100000 in
theorem xmc_58 : lw_tbl[(xMt 58).2.2.2.2.2.1]? = some (Jvm.Cond.code (xMt 58).1 (xMt 58).2.1 (xMt 58).2.2.1 (xMt 58).2.2.2.1) := rfl
set_option maxRecDepth 100000 in
theorem xmc_59 : lw_tbl[(xMt 59).2.2.2.2.2.1]? = some (Jvm.Cond.code (xMt 59).1 (xMt 59).2.1 (xMt 59).2.2.1 (xMt 59).2.2.2.1) := rfl
set_option maxRecDepth 100000 in
theorem xmc_60 : lw_tbl[(xMt 60).2.2.2.2.2.1]? = some (Jvm.Cond.code (xMt 60).1 (xMt 60).2.1 (xMt 60).2.2.1 (xMt 60).2.2.2.1) := rfl
set_option maxRecDepth 100000 in
theorem xmc_61 : lw_tbl[(xMt 61).2.2.2.2.2.1]? = some (Jvm.Cond.code (xMt 61).1 (xMt 61).2.1 (xMt 61).2.2.1 (xMt 61).2.2.2.1) := rfl
set_option maxRecDepth 100000 in
theorem xmc_62 : lw_tbl[(xMt 62).2.2.2.2.2.1]? = some (Jvm.Cond.code (xMt 62).1 (xMt 62).2.1 (xMt 62).2.2.1 (xMt 62).2.2.2.1) := rfl
set_option maxRecDepth 100000 in
theorem xmc_63 : lw_tbl[(xMt 63).2.2.2.2.2.1]? = some (Jvm.Cond.code (xMt 63).1 (xMt 63).2.1 (xMt 63).2.2.1 (xMt 63).2.2.2.1) := rfl
set_option maxRecDepth 100000 in
theorem xmc_64 : lw_tbl[(xMt 64).2.2.2.2.2.1]? = some (Jvm.Cond.code (xMt 64).1 (xMt 64).2.1 (xMt 64).2.2.1 (xMt 64).2.2.2.1) := rfl
set_option maxRecDepth 100000 in
theorem xmc_65 : lw_tbl[(xMt 65).2.2.2.2.2.1]? = some (Jvm.Cond.code (xMt 65).1 (xMt 65).2.1 (xMt 65).2.2.1 (xMt 65).2.2.2.1) := rfl
set_option maxRecDepth 100000 in
theorem xmc_66 : lw_tbl[(xMt 66).2.2.2.2.2.1]? = some (Jvm.Cond.code (xMt 66).1 (xMt 66).2.1 (xMt 66).2.2.1 (xMt 66).2.2.2.1) := rfl
set_option maxRecDepth 100000 in
theorem xmc_67 : lw_tbl[(xMt 67).2.2.2.2.2.1]? = some (Jvm.Cond.code (xMt 67).1 (xMt 67).2.1 (xMt 67).2.2.1 (xMt 67).2.2.2.1) := rfl
set_option maxRecDepth 100000 in
theorem xmc_68 : lw_tbl[(xMt 68).2.2.2.2.2.1]? = some (Jvm.Cond.code (xMt 68).1 (xMt 68).2.1 (xMt 68).2.2.1 (xMt 68).2.2.2.1) := rfl
set_option maxRecDepth 100000 in
theorem xmc_69 : lw_tbl[(xMt 69).2.2.2.2.2.1]? = some (Jvm.Cond.code (xMt 69).1 (xMt 69).2.1 (xMt 69).2.2.1 (xMt 69).2.2.2.1) := rfl
set_option maxRecDepth 100000 in
theorem xmc_70 : lw_tbl[(xMt 70).2.2.2.2.2.1]? = some (Jvm.Cond.code (xMt 70).1 (xMt 70).2.1 (xMt 70).2.2.1 (xMt 70).2.2.2.1) := rfl
set_option maxRecDepth 100000 in
theorem xmc_71 : lw_tbl[(xMt 71).2.2.2.2.2.1]? = some (Jvm.Cond.code (xMt 71).1 (xMt 71).2.1 (xMt 71).2.2.1 (xMt 71).2.2.2.1) := rfl
set_option maxRecDepth 100000 in
theorem xmc_72 : lw_tbl[(xMt 72).2.2.2.2.2.1]? = some (Jvm.Cond.code (xMt 72).1 (xMt 72).2.1 (xMt 72).2.2.1 (xMt 72).2.2.2.1) := rfl
set_option maxRecDepth 100000 in
theorem xmc_73 : lw_tbl[(xMt 73).2.2.2.2.2.1]? = some (Jvm.Cond.code (xMt 73).1 (xMt 73).2.1 (xMt 73).2.2.1 (xMt 73).2.2.2.1) := rfl
set_option maxRecDepth 100000 in
theorem xmc_74 : lw_tbl[(xMt 74).2.2.2.2.2.1]? = some (Jvm.Cond.code (xMt 74).1 (xMt 74).2.1 (xMt 74).2.2.1 (xMt 74).2.2.2.1) := rfl
set_option maxRecDepth 100000 in
theorem xmc_75 : lw_tbl[(xMt 75).2.2.2.2.2.1]? = some (Jvm.Cond.code (xMt 75).1 (xMt 75).2.1 (xMt 75).2.2.1 (xMt 75).2.2.2.1) := rfl
set_option maxRecDepth 100000 in
theorem xmc_76 : lw_tbl[(xMt 76).2.2.2.2.2.1]? = some (Jvm.Cond.code (xMt 76).1 (xMt 76).2.1 (xMt 76).2.2.1 (xMt 76).2.2.2.1) := rfl
set_option maxRecDepth 100000 in
theorem xmc_77 : lw_tbl[(xMt 77).2.2.2.2.2.1]? = some (Jvm.Cond.code (xMt 77).1 (xMt 77).2.1 (xMt 77).2.2.1 (xMt 77).2.2.2.1) := rfl
set_option maxRecDepth 100000 in
theorem xmc_78 : lw_tbl[(xMt 78).2.2.2.2.2.1]? = some (Jvm.Cond.code (xMt 78).1 (xMt 78).2.1 (xMt 78).2.2.1 (xMt 78).2.2.2.1) := rfl
set_option maxRecDepth 100000 in
theorem xmc_79 : lw_tbl[(xMt 79).2.2.2.2.2.1]? = some (Jvm.Cond.code (xMt 79).1 (xMt 79).2.1 (xMt 79).2.2.1 (xMt 79).2.2.2.1) := rfl
set_option maxRecDepth 100000 in
theorem xmc_80 : lw_tbl[(xMt 80).2.2.2.2.2.1]? = some (Jvm.Cond.code (xMt 80).1 (xMt 80).2.1 (xMt 80).2.2.1 (xMt 80).2.2.2.1) := rfl
set_option maxRecDepth 100000 in
theorem xmc_81 : lw_tbl[(xMt 81).2.2.2.2.2.1]? = some (Jvm.Cond.code (xMt 81).1 (xMt 81).2.1 (xMt 81).2.2.1 (xMt 81).2.2.2.1) := rfl
set_option maxRecDepth 100000 in
theorem xmc_82 : lw_tbl[(xMt 82).2.2.2.2.2.1]? = some (Jvm.Cond.code (xMt 82).1 (xMt 82).2.1 (xMt 82).2.2.1 (xMt 82).2.2.2.1) := rfl
set_option maxRecDepth 100000 in
theorem xmc_83 : lw_tbl[(xMt 83).2.2.2.2.2.1]? = some (Jvm.Cond.code (xMt 83).1 (xMt 83).2.1 (xMt 83).2.2.1 (xMt 83).2.2.2.1) := rfl
set_option maxRecDepth 100000 in
theorem xmc_84 : lw_tbl[(xMt 84).2.2.2.2.2.1]? = some (Jvm.Cond.code (xMt 84).1 (xMt 84).2.1 (xMt 84).2.2.1 (xMt 84).2.2.2.1) := rfl
set_option maxRecDepth 100000 in
theorem xmc_85 : lw_tbl[(xMt 85).2.2.2.2.2.1]? = some (Jvm.Cond.code (xMt 85).1 (xMt 85).2.1 (xMt 85).2.2.1 (xMt 85).2.2.2.1) := rfl
set_option maxRecDepth 100000 in
theorem xmc_86 : lw_tbl[(xMt 86).2.2.2.2.2.1]? = some (Jvm.Cond.code (xMt 86).1 (xMt 86).2.1 (xMt 86).2.2.1 (xMt 86).2.2.2.1) := rfl
set_option maxRecDepth 100000 in
theorem xmc_87 : lw_tbl[(xMt 87).2.2.2.2.2.1]? = some (Jvm.Cond.code (xMt 87).1 (xMt 87).2.1 (xMt 87).2.2.1 (xMt 87).2.2.2.1) := rfl
set_option maxRecDepth 100000 in
theorem xmc_88 : lw_tbl[(xMt 88).2.2.2.2.2.1]? = some (Jvm.Cond.code (xMt 88).1 (xMt 88).2.1 (xMt 88).2.2.1 (xMt 88).2.2.2.1) := rfl
set_option maxRecDepth 100000 in
theorem xmc_89 : lw_tbl[(xMt 89).2.2.2.2.2.1]? = some (Jvm.Cond.code (xMt 89).1 (xMt 89).2.1 (xMt 89).2.2.1 (xMt 89).2.2.2.1) := rfl
set_option maxRecDepth 100000 in
theorem xmc_90 : lw_tbl[(xMt 90).2.2.2.2.2.1]? = some (Jvm.Cond.code (xMt 90).1 (xMt 90).2.1 (xMt 90).2.2.1 (xMt 90).2.2.2.1) := rfl
set_option maxRecDepth 100000 in
theorem xmc_91 : lw_tbl[(xMt 91).2.2.2.2.2.1]? = some (Jvm.Cond.code (xMt 91).1 (xMt 91).2.1 (xMt 91).2.2.1 (xMt 91).2.2.2.1) := rfl
set_option maxRecDepth 100000 in
theorem xmc_92 : lw_tbl[(xMt 92).2.2.2.2.2.1]? = some (Jvm.Cond.code (xMt 92).1 (xMt 92).2.1 (xMt 92).2.2.1 (xMt 92).2.2.2.1) := rfl
set_option maxRecDepth 100000 in
theorem xmc_93 : lw_tbl[(xMt 93).2.2.2.2.2.1]? = some (Jvm.Cond.code (xMt 93).1 (xMt 93).2.1 (xMt 93).2.2.1 (xMt 93).2.2.2.1) := rfl
set_option maxRecDepth 100000 in
theorem xmc_94 : lw_tbl[(xMt 94).2.2.2.2.2.1]? = some (Jvm.Cond.code (xMt 94).1 (xMt 94).2.1 (xMt 94).2.2.1 (xMt 94).2.2.2.1) := rfl
set_option maxRecDepth 100000 in
theorem xmc_95 : lw_tbl[(xMt 95).2.2.2.2.2.1]? = some (Jvm.Cond.code (xMt 95).1 (xMt 95).2.1 (xMt 95).2.2.1 (xMt 95).2.2.2.1) := rfl
set_option maxRecDepth 100000 in
theorem xmc_96 : lw_tbl[(xMt 96).2.2.2.2.2.1]? = some (Jvm.Cond.code (xMt 96).1 (xMt 96).2.1 (xMt 96).2.2.1 (xMt 96).2.2.2.1) := rfl
set_option maxRecDepth 100000 in
theorem xmc_97 : lw_tbl[(xMt 97).2.2.2.2.2.1]? = some (Jvm.Cond.code (xMt 97).1 (xMt 97).2.1 (xMt 97).2.2.1 (xMt 97).2.2.2.1) := rfl
set_option maxRecDepth 100000 in
theorem xmc_98 : lw_tbl[(xMt 98).2.2.2.2.2.1]? = some (Jvm.Cond.code (xMt 98).1 (xMt 98).2.1 (xMt 98).2.2.1 (xMt 98).2.2.2.1) := rfl
set_option maxRecDepth 100000 in
theorem xmc_99 : lw_tbl[(xMt 99).2.2.2.2.2.1]? = some (Jvm.Cond.code (xMt 99).1 (xMt 99).2.1 (xMt 99).2.2.1 (xMt 99).2.2.2.1) := rfl
set_option maxRecDepth 100000 in
theorem xmc_100 : lw_tbl[(xMt 100).2.2.2.2.2.1]? = some (Jvm.Cond.code (xMt 100).1 (xMt 100).2.1 (xMt 100).2.2.1 (xMt 100).2.2.2.1) := rfl
set_option maxRecDepth 100000 in
theorem xmc_101 : lw_tbl[(xMt 101).2.2.2.2.2.1]? = some (Jvm.Cond.code (xMt 101).1 (xMt 101).2.1 (xMt 101).2.2.1 (xMt 101).2.2.2.1) := rfl
set_option maxRecDepth 100000 in
theorem xmc_102 : lw_tbl[(xMt 102).2.2.2.2.2.1]? = some (Jvm.Cond.code (xMt 102).1 (xMt 102).2.1 (xMt 102).2.2.1 (xMt 102).2.2.2.1) := rfl
set_option maxRecDepth 100000 in
theorem xmc_103 : lw_tbl[(xMt 103).2.2.2.2.2.1]? = some (Jvm.Cond.code (xMt 103).1 (xMt 103).2.1 (xMt 103).2.2.1 (xMt 103).2.2.2.1) := rfl
set_option maxRecDepth 100000 in
theorem xmc_104 : lw_tbl[(xMt 104).2.2.2.2.2.1]? = some (Jvm.Cond.code (xMt 104).1 (xMt 104).2.1 (xMt 104).2.2.1 (xMt 104).2.2.2.1) := rfl
set_option maxRecDepth 100000 in
theorem xmc_105 : lw_tbl[(xMt 105).2.2.2.2.2.1]? = some (Jvm.Cond.code (xMt 105).1 (xMt 105).2.1 (xMt 105).2.2.1 (xMt 105).2.2.2.1) := rfl
set_option maxRecDepth 100000 in
theorem xmc_106 : lw_tbl[(xMt 106).2.2.2.2.2.1]? = some (Jvm.Cond.code (xMt 106).1 (xMt 106).2.1 (xMt 106).2.2.1 (xMt 106).2.2.2.1) := rfl
set_option maxRecDepth 100000 in
theorem xmc_107 : lw_tbl[(xMt 107).2.2.2.2.2.1]? = some (Jvm.Cond.code (xMt 107).1 (xMt 107).2.1 (xMt 107).2.2.1 (xMt 107).2.2.2.1) := rfl
set_option maxRecDepth 100000 in
theorem xmc_108 : lw_tbl[(xMt 108).2.2.2.2.2.1]? = some (Jvm.Cond.code (xMt 108).1 (xMt 108).2.1 (xMt 108).2.2.1 (xMt 108).2.2.2.1) := rfl
set_option maxRecDepth 100000 in
theorem xmc_109 : lw_tbl[(xMt 109).2.2.2.2.2.1]? = some (Jvm.Cond.code (xMt 109).1 (xMt 109).2.1 (xMt 109).2.2.1 (xMt 109).2.2.2.1) := rfl
set_option maxRecDepth 100000 in
theorem xmc_110 : lw_tbl[(xMt 110).2.2.2.2.2.1]? = some (Jvm.Cond.code (xMt 110).1 (xMt 110).2.1 (xMt 110).2.2.1 (xMt 110).2.2.2.1) := rfl
set_option maxRecDepth 100000 in
theorem xmc_111 : lw_tbl[(xMt 111).2.2.2.2.2.1]? = some (Jvm.Cond.code (xMt 111).1 (xMt 111).2.1 (xMt 111).2.2.1 (xMt 111).2.2.2.1) := rfl
set_option maxRecDepth 100000 in
theorem xmc_112 : lw_tbl[(xMt 112).2.2.2.2.2.1]? = some (Jvm.Cond.code (xMt 112).1 (xMt 112).2.1 (xMt 112).2.2.1 (xMt 112).2.2.2.1) := rfl
set_option maxRecDepth 100000 in
theorem xmc_113 : lw_tbl[(xMt 113).2.2.2.2.2.1]? = some (Jvm.Cond.code (xMt 113).1 (xMt 113).2.1 (xMt 113).2.2.1 (xMt 113).2.2.2.1) := rfl
set_option maxRecDepth 100000 in
theorem xmc_114 : lw_tbl[(xMt 114).2.2.2.2.2.1]? = some (Jvm.Cond.code (xMt 114).1 (xMt 114).2.1 (xMt 114).2.2.1 (xMt 114).2.2.2.1) := rfl
set_option maxRecDepth 100000 in
theorem xmc_115 : lw_tbl[(xMt 115).2.2.2.2.2.1]? = some (Jvm.Cond.code (xMt 115).1 (xMt 115).2.1 (xMt 115).2.2.1 (xMt 115).2.2.2.1) := rfl
set_option maxRecDepth 100000 in
theorem xmc_116 : lw_tbl[(xMt 116).2.2.2.2.2.1]? = some (Jvm.Cond.code (xMt 116).1 (xMt 116).2.1 (xMt 116).2.2.1 (xMt 116).2.2.2.1) := rfl
set_option maxRecDepth 100000 in
theorem xmc_117 : lw_tbl[(xMt 117).2.2.2.2.2.1]? = some (Jvm.Cond.code (xMt 117).1 (xMt 117).2.1 (xMt 117).2.2.1 (xMt 117).2.2.2.1) := rfl
set_option maxRecDepth 100000 in
theorem xmc_118 : lw_tbl[(xMt 118).2.2.2.2.2.1]? = some (Jvm.Cond.code (xMt 118).1 (xMt 118).2.1 (xMt 118).2.2.1 (xMt 118).2.2.2.1) := rfl
set_option maxRecDepth 100000 in
theorem xmc_119 : lw_tbl[(xMt 119).2.2.2.2.2.1]? = some (Jvm.Cond.code (xMt 119).1 (xMt 119).2.1 (xMt 119).2.2.1 (xMt 119).2.2.2.1) := rfl
set_option maxRecDepth 100000 in
theorem xmc_120 : lw_tbl[(xMt 120).2.2.2.2.2.1]? = some (Jvm.Cond.code (xMt 120).1 (xMt 120).2.1 (xMt 120).2.2.1 (xMt 120).2.2.2.1) := rfl
set_option maxRecDepth 100000 in
theorem xmc_121 : lw_tbl[(xMt 121).2.2.2.2.2.1]? = some (Jvm.Cond.code (xMt 121).1 (xMt 121).2.1 (xMt 121).2.2.1 (xMt 121).2.2.2.1) := rfl
set_option maxRecDepth 100000 in
theorem xmc_122 : lw_tbl[(xMt 122).2.2.2.2.2.1]? = some (Jvm.Cond.code (xMt 122).1 (xMt 122).2.1 (xMt 122).2.2.1 (xMt 122).2.2.2.1) := rfl
set_option maxRecDepth 100000 in
theorem xmc_123 : lw_tbl[(xMt 123).2.2.2.2.2.1]? = some (Jvm.Cond.code (xMt 123).1 (xMt 123).2.1 (xMt 123).2.2.1 (xMt 123).2.2.2.1) := rfl
set_option maxRecDepth 100000 in
theorem xmc_124 : lw_tbl[(xMt 124).2.2.2.2.2.1]? = some (Jvm.Cond.code (xMt 124).1 (xMt 124).2.1 (xMt 124).2.2.1 (xMt 124).2.2.2.1) := rfl
set_option maxRecDepth 100000 in
theorem xmc_125 : lw_tbl[(xMt 125).2.2.2.2.2.1]? = some (Jvm.Cond.code (xMt 125).1 (xMt 125).2.1 (xMt 125).2.2.1 (xMt 125).2.2.2.1) := rfl
set_option maxRecDepth 100000 in
theorem xmc_126 : lw_tbl[(xMt 126).2.2.2.2.2.1]? = some (Jvm.Cond.code (xMt 126).1 (xMt 126).2.1 (xMt 126).2.2.1 (xMt 126).2.2.2.1) := rfl
set_option maxRecDepth 100000 in
theorem xmc_127 : lw_tbl[(xMt 127).2.2.2.2.2.1]? = some (Jvm.Cond.code (xMt 127).1 (xMt 127).2.1 (xMt 127).2.2.1 (xMt 127).2.2.2.1) := rfl
set_option maxRecDepth 100000 in
theorem xmc_128 : lw_tbl[(xMt 128).2.2.2.2.2.1]? = some (Jvm.Cond.code (xMt 128).1 (xMt 128).2.1 (xMt 128).2.2.1 (xMt 128).2.2.2.1) := rfl
set_option maxRecDepth 100000 in
theorem xmc_129 : lw_tbl[(xMt 129).2.2.2.2.2.1]? = some (Jvm.Cond.code (xMt 129).1 (xMt 129).2.1 (xMt 129).2.2.1 (xMt 129).2.2.2.1) := rfl
set_option maxRecDepth 100000 in
theorem xmc_130 : lw_tbl[(xMt 130).2.2.2.2.2.1]? = some (Jvm.Cond.code (xMt 130).1 (xMt 130).2.1 (xMt 130).2.2.1 (xMt 130).2.2.2.1) := rfl
set_option maxRecDepth 100000 in
theorem xmc_131 : lw_tbl[(xMt 131).2.2.2.2.2.1]? = some (Jvm.Cond.code (xMt 131).1 (xMt 131).2.1 (xMt 131).2.2.1 (xMt 131).2.2.2.1) := rfl
set_option maxRecDepth 100000 in
theorem xmc_132 : lw_tbl[(xMt 132).2.2.2.2.2.1]? = some (Jvm.Cond.code (xMt 132).1 (xMt 132).2.1 (xMt 132).2.2.1 (xMt 132).2.2.2.1) := rfl
set_option maxRecDepth 100000 in
theorem xmc_133 : lw_tbl[(xMt 133).2.2.2.2.2.1]? = some (Jvm.Cond.code (xMt 133).1 (xMt 133).2.1 (xMt 133).2.2.1 (xMt 133).2.2.2.1) := rfl
set_option maxRecDepth 100000 in
theorem xmc_134 : lw_tbl[(xMt 134).2.2.2.2.2.1]? = some (Jvm.Cond.code (xMt 134).1 (xMt 134).2.1 (xMt 134).2.2.1 (xMt 134).2.2.2.1) := rfl
set_option maxRecDepth 100000 in
theorem xmc_135 : lw_tbl[(xMt 135).2.2.2.2.2.1]? = some (Jvm.Cond.code (xMt 135).1 (xMt 135).2.1 (xMt 135).2.2.1 (xMt 135).2.2.2.1) := rfl
set_option maxRecDepth 100000 in
theorem xmc_136 : lw_tbl[(xMt 136).2.2.2.2.2.1]? = some (Jvm.Cond.code (xMt 136).1 (xMt 136).2.1 (xMt 136).2.2.1 (xMt 136).2.2.2.1) := rfl
set_option maxRecDepth 100000 in
theorem xmc_137 : lw_tbl[(xMt 137).2.2.2.2.2.1]? = some (Jvm.Cond.code (xMt 137).1 (xMt 137).2.1 (xMt 137).2.2.1 (xMt 137).2.2.2.1) := rfl
set_option maxRecDepth 100000 in
theorem xmc_138 : lw_tbl[(xMt 138).2.2.2.2.2.1]? = some (Jvm.Cond.code (xMt 138).1 (xMt 138).2.1 (xMt 138).2.2.1 (xMt 138).2.2.2.1) := rfl
set_option maxRecDepth 100000 in
theorem xmc_139 : lw_tbl[(xMt 139).2.2.2.2.2.1]? = some (Jvm.Cond.code (xMt 139).1 (xMt 139).2.1 (xMt 139).2.2.1 (xMt 139).2.2.2.1) := rfl
set_option maxRecDepth 100000 in
theorem xmc_140 : lw_tbl[(xMt 140).2.2.2.2.2.1]? = some (Jvm.Cond.code (xMt 140).1 (xMt 140).2.1 (xMt 140).2.2.1 (xMt 140).2.2.2.1) := rfl
set_option maxRecDepth 100000 in
theorem xmc_141 : lw_tbl[(xMt 141).2.2.2.2.2.1]? = some (Jvm.Cond.code (xMt 141).1 (xMt 141).2.1 (xMt 141).2.2.1 (xMt 141).2.2.2.1) := rfl
set_option maxRecDepth 100000 in
theorem xmc_142 : lw_tbl[(xMt 142).2.2.2.2.2.1]? = some (Jvm.Cond.code (xMt 142).1 (xMt 142).2.1 (xMt 142).2.2.1 (xMt 142).2.2.2.1) := rfl
set_option maxRecDepth 100000 in
theorem xmc_143 : lw_tbl[(xMt 143).2.2.2.2.2.1]? = some (Jvm.Cond.code (xMt 143).1 (xMt 143).2.1 (xMt 143).2.2.1 (xMt 143).2.2.2.1) := rfl
set_option maxRecDepth 100000 in
theorem xmc_144 : lw_tbl[(xMt 144).2.2.2.2.2.1]? = some (Jvm.Cond.code (xMt 144).1 (xMt 144).2.1 (xMt 144).2.2.1 (xMt 144).2.2.2.1) := rfl
set_option maxRecDepth 100000 in
theorem xmc_145 : lw_tbl[(xMt 145).2.2.2.2.2.1]? = some (Jvm.Cond.code (xMt 145).1 (xMt 145).2.1 (xMt 145).2.2.1 (xMt 145).2.2.2.1) := rfl
set_option maxRecDepth 100000 in
theorem xmc_146 : lw_tbl[(xMt 146).2.2.2.2.2.1]? = some (Jvm.Cond.code (xMt 146).1 (xMt 146).2.1 (xMt 146).2.2.1 (xMt 146).2.2.2.1) := rfl
set_option maxRecDepth 100000 in
theorem xmc_147 : lw_tbl[(xMt 147).2.2.2.2.2.1]? = some (Jvm.Cond.code (xMt 147).1 (xMt 147).2.1 (xMt 147).2.2.1 (xMt 147).2.2.2.1) := rfl
set_option maxRecDepth 100000 in
theorem xmc_148 : lw_tbl[(xMt 148).2.2.2.2.2.1]? = some (Jvm.Cond.code (xMt 148).1 (xMt 148).2.1 (xMt 148).2.2.1 (xMt 148).2.2.2.1) := rfl
set_option maxRecDepth 100000 in
theorem xmc_149 : lw_tbl[(xMt 149).2.2.2.2.2.1]? = some (Jvm.Cond.code (xMt 149).1 (xMt 149).2.1 (xMt 149).2.2.1 (xMt 149).2.2.2.1) := rfl
set_option maxRecDepth 100000 in
theorem xmc_150 : lw_tbl[(xMt 150).2.2.2.2.2.1]? = some (Jvm.Cond.code (xMt 150).1 (xMt 150).2.1 (xMt 150).2.2.1 (xMt 150).2.2.2.1) := rfl
set_option maxRecDepth 100000 in
theorem xmc_151 : lw_tbl[(xMt 151).2.2.2.2.2.1]? = some (Jvm.Cond.code (xMt 151).1 (xMt 151).2.1 (xMt 151).2.2.1 (xMt 151).2.2.2.1) := rfl
set_option maxRecDepth 100000 in
theorem xmc_152 : lw_tbl[(xMt 152).2.2.2.2.2.1]? = some (Jvm.Cond.code (xMt 152).1 (xMt 152).2.1 (xMt 152).2.2.1 (xMt 152).2.2.2.1) := rfl
set_option maxRecDepth 100000 in
theorem xmc_153 : lw_tbl[(xMt 153).2.2.2.2.2.1]? = some (Jvm.Cond.code (xMt 153).1 (xMt 153).2.1 (xMt 153).2.2.1 (xMt 153).2.2.2.1) := rfl
set_option maxRecDepth 100000 in
theorem xmc_154 : lw_tbl[(xMt 154).2.2.2.2.2.1]? = some (Jvm.Cond.code (xMt 154).1 (xMt 154).2.1 (xMt 154).2.2.1 (xMt 154).2.2.2.1) := rfl
theorem xmcode (j : Nat) (hj : j < 155) : lw_tbl[(xMt j).2.2.2.2.2.1]? = some (Jvm.Cond.code (xMt j).1 (xMt j).2.1 (xMt j).2.2.1 (xMt j).2.2.2.1) := by
  rcases Nat.lt_or_ge j 77 with h77 | h77
  · rcases Nat.lt_or_ge j 38 with h38 | h38
    · rcases Nat.lt_or_ge j 19 with h19 | h19
      · rcases Nat.lt_or_ge j 9 with h9 | h9
        · rcases Nat.lt_or_ge j 4 with h4 | h4
          · rcases Nat.lt_or_ge j 2 with h2 | h2
            · rcases Nat.lt_or_ge j 1 with h1 | h1
              · have hz : j = 0 := by omega
                subst hz
                exact xmc_0
              · have hz : j = 1 := by omega
                subst hz
                exact xmc_1
            · rcases Nat.lt_or_ge j 3 with h3 | h3
              · have hz : j = 2 := by omega
                subst hz
                exact xmc_2
              · have hz : j = 3 := by omega
                subst hz
                exact xmc_3
          · rcases Nat.lt_or_ge j 6 with h6 | h6
            · rcases Nat.lt_or_ge j 5 with h5 | h5
              · have hz : j = 4 := by omega
                subst hz
                exact xmc_4
              · have hz : j = 5 := by omega
                subst hz
                exact xmc_5
            · rcases Nat.lt_or_ge j 7 with h7 | h7
              · have hz : j = 6 := by omega
                subst hz
                exact xmc_6
              · rcases Nat.lt_or_ge j 8 with h8 | h8
                · have hz : j = 7 := by omega
                  subst hz
                  exact xmc_7
                · have hz : j = 8 := by omega
                  subst hz
                  exact xmc_8
        · rcases Nat.lt_or_ge j 14 with h14 | h14
          · rcases Nat.lt_or_ge j 11 with h11 | h11
            · rcases Nat.lt_or_ge j 10 with h10 | h10
              · have hz : j = 9 := by omega
                subst hz
                exact xmc_9
              · have hz : j = 10 := by omega
                subst hz
                exact xmc_10
            · rcases Nat.lt_or_ge j 12 with h12 | h12
              · have hz : j = 11 := by omega
                subst hz
                exact xmc_11
              · rcases Nat.lt_or_ge j 13 with h13 | h13
                · have hz : j = 12 := by omega
                  subst hz
                  exact xmc_12
                · have hz : j = 13 := by omega
                  subst hz
                  exact xmc_13
          · rcases Nat.lt_or_ge j 16 with h16 | h16
            · rcases Nat.lt_or_ge j 15 with h15 | h15
              · have hz : j = 14 := by omega
                subst hz
                exact xmc_14
              · have hz : j = 15 := by omega
                subst hz
                exact xmc_15
            · rcases Nat.lt_or_ge j 17 with h17 | h17
              · have hz : j = 16 := by omega
                subst hz
                exact xmc_16
              · rcases Nat.lt_or_ge j 18 with h18 | h18
                · have hz : j = 17 := by omega
                  subst hz
                  exact xmc_17
                · have hz : j = 18 := by omega
                  subst hz
                  exact xmc_18
      · rcases Nat.lt_or_ge j 28 with h28 | h28
        · rcases Nat.lt_or_ge j 23 with h23 | h23
          · rcases Nat.lt_or_ge j 21 with h21 | h21
            · rcases Nat.lt_or_ge j 20 with h20 | h20
              · have hz : j = 19 := by omega
                subst hz
                exact xmc_19
              · have hz : j = 20 := by omega
                subst hz
                exact xmc_20
            · rcases Nat.lt_or_ge j 22 with h22 | h22
              · have hz : j = 21 := by omega
                subst hz
                exact xmc_21
              · have hz : j = 22 := by omega
                subst hz
                exact xmc_22
          · rcases Nat.lt_or_ge j 25 with h25 | h25
            · rcases Nat.lt_or_ge j 24 with h24 | h24
              · have hz : j = 23 := by omega
                subst hz
                exact xmc_23
              · have hz : j = 24 := by omega
                subst hz
                exact xmc_24
            · rcases Nat.lt_or_ge j 26 with h26 | h26
              · have hz : j = 25 := by omega
                subst hz
                exact xmc_25
              · rcases Nat.lt_or_ge j 27 with h27 | h27
                · have hz : j = 26 := by omega
                  subst hz
                  exact xmc_26
                · have hz : j = 27 := by omega
                  subst hz
                  exact xmc_27
        · rcases Nat.lt_or_ge j 33 with h33 | h33
          · rcases Nat.lt_or_ge j 30 with h30 | h30
            · rcases Nat.lt_or_ge j 29 with h29 | h29
              · have hz : j = 28 := by omega
                subst hz
                exact xmc_28
              · have hz : j = 29 := by omega
                subst hz
                exact xmc_29
            · rcases Nat.lt_or_ge j 31 with h31 | h31
              · have hz : j = 30 := by omega
                subst hz
                exact xmc_30
              · rcases Nat.lt_or_ge j 32 with h32 | h32
                · have hz : j = 31 := by omega
                  subst hz
                  exact xmc_31
                · have hz : j = 32 := by omega
                  subst hz
                  exact xmc_32
          · rcases Nat.lt_or_ge j 35 with h35 | h35
            · rcases Nat.lt_or_ge j 34 with h34 | h34
              · have hz : j = 33 := by omega
                subst hz
                exact xmc_33
              · have hz : j = 34 := by omega
                subst hz
                exact xmc_34
            · rcases Nat.lt_or_ge j 36 with h36 | h36
              · have hz : j = 35 := by omega
                subst hz
                exact xmc_35
              · rcases Nat.lt_or_ge j 37 with h37 | h37
                · have hz : j = 36 := by omega
                  subst hz
                  exact xmc_36
                · have hz : j = 37 := by omega
                  subst hz
                  exact xmc_37
    · rcases Nat.lt_or_ge j 57 with h57 | h57
      · rcases Nat.lt_or_ge j 47 with h47 | h47
        · rcases Nat.lt_or_ge j 42 with h42 | h42
          · rcases Nat.lt_or_ge j 40 with h40 | h40
            · rcases Nat.lt_or_ge j 39 with h39 | h39
              · have hz : j = 38 := by omega
                subst hz
                exact xmc_38
              · have hz : j = 39 := by omega
                subst hz
                exact xmc_39
            · rcases Nat.lt_or_ge j 41 with h41 | h41
              · have hz : j = 40 := by omega
                subst hz
                exact xmc_40
              · have hz : j = 41 := by omega
                subst hz
                exact xmc_41
          · rcases Nat.lt_or_ge j 44 with h44 | h44
            · rcases Nat.lt_or_ge j 43 with h43 | h43
              · have hz : j = 42 := by omega
                subst hz
                exact xmc_42
              · have hz : j = 43 := by omega
                subst hz
                exact xmc_43
            · rcases Nat.lt_or_ge j 45 with h45 | h45
              · have hz : j = 44 := by omega
                subst hz
                exact xmc_44
              · rcases Nat.lt_or_ge j 46 with h46 | h46
                · have hz : j = 45 := by omega
                  subst hz
                  exact xmc_45
                · have hz : j = 46 := by omega
                  subst hz
                  exact xmc_46
        · rcases Nat.lt_or_ge j 52 with h52 | h52
          · rcases Nat.lt_or_ge j 49 with h49 | h49
            · rcases Nat.lt_or_ge j 48 with h48 | h48
              · have hz : j = 47 := by omega
                subst hz
                exact xmc_47
              · have hz : j = 48 := by omega
                subst hz
                exact xmc_48
            · rcases Nat.lt_or_ge j 50 with h50 | h50
              · have hz : j = 49 := by omega
                subst hz
                exact xmc_49
              · rcases Nat.lt_or_ge j 51 with h51 | h51
                · have hz : j = 50 := by omega
                  subst hz
                  exact xmc_50
                · have hz : j = 51 := by omega
                  subst hz
                  exact xmc_51
          · rcases Nat.lt_or_ge j 54 with h54 | h54
            · rcases Nat.lt_or_ge j 53 with h53 | h53
              · have hz : j = 52 := by omega
                subst hz
                exact xmc_52
              · have hz : j = 53 := by omega
                subst hz
                exact xmc_53
            · rcases Nat.lt_or_ge j 55 with h55 | h55
              · have hz : j = 54 := by omega
                subst hz
                exact xmc_54
              · rcases Nat.lt_or_ge j 56 with h56 | h56
                · have hz : j = 55 := by omega
                  subst hz
                  exact xmc_55
                · have hz : j = 56 := by omega
                  subst hz
                  exact xmc_56
      · rcases Nat.lt_or_ge j 67 with h67 | h67
        · rcases Nat.lt_or_ge j 62 with h62 | h62
          · rcases Nat.lt_or_ge j 59 with h59 | h59
            · rcases Nat.lt_or_ge j 58 with h58 | h58
              · have hz : j = 57 := by omega
                subst hz
                exact xmc_57
              · have hz : j = 58 := by omega
                subst hz
                exact xmc_58
            · rcases Nat.lt_or_ge j 60 with h60 | h60
              · have hz : j = 59 := by omega
                subst hz
                exact xmc_59
              · rcases Nat.lt_or_ge j 61 with h61 | h61
                · have hz : j = 60 := by omega
                  subst hz
                  exact xmc_60
                · have hz : j = 61 := by omega
                  subst hz
                  exact xmc_61
          · rcases Nat.lt_or_ge j 64 with h64 | h64
            · rcases Nat.lt_or_ge j 63 with h63 | h63
              · have hz : j = 62 := by omega
                subst hz
                exact xmc_62
              · have hz : j = 63 := by omega
                subst hz
                exact xmc_63
            · rcases Nat.lt_or_ge j 65 with h65 | h65
              · have hz : j = 64 := by omega
                subst hz
                exact xmc_64
              · rcases Nat.lt_or_ge j 66 with h66 | h66
                · have hz : j = 65 := by omega
                  subst hz
                  exact xmc_65
                · have hz : j = 66 := by omega
                  subst hz
                  exact xmc_66
        · rcases Nat.lt_or_ge j 72 with h72 | h72
          · rcases Nat.lt_or_ge j 69 with h69 | h69
            · rcases Nat.lt_or_ge j 68 with h68 | h68
              · have hz : j = 67 := by omega
                subst hz
                exact xmc_67
              · have hz : j = 68 := by omega
                subst hz
                exact xmc_68
            · rcases Nat.lt_or_ge j 70 with h70 | h70
              · have hz : j = 69 := by omega
                subst hz
                exact xmc_69
              · rcases Nat.lt_or_ge j 71 with h71 | h71
                · have hz : j = 70 := by omega
                  subst hz
                  exact xmc_70
                · have hz : j = 71 := by omega
                  subst hz
                  exact xmc_71
          · rcases Nat.lt_or_ge j 74 with h74 | h74
            · rcases Nat.lt_or_ge j 73 with h73 | h73
              · have hz : j = 72 := by omega
                subst hz
                exact xmc_72
              · have hz : j = 73 := by omega
                subst hz
                exact xmc_73
            · rcases Nat.lt_or_ge j 75 with h75 | h75
              · have hz : j = 74 := by omega
                subst hz
                exact xmc_74
              · rcases Nat.lt_or_ge j 76 with h76 | h76
                · have hz : j = 75 := by omega
                  subst hz
                  exact xmc_75
                · have hz : j = 76 := by omega
                  subst hz
                  exact xmc_76
  · rcases Nat.lt_or_ge j 116 with h116 | h116
    · rcases Nat.lt_or_ge j 96 with h96 | h96
      · rcases Nat.lt_or_ge j 86 with h86 | h86
        · rcases Nat.lt_or_ge j 81 with h81 | h81
          · rcases Nat.lt_or_ge j 79 with h79 | h79
            · rcases Nat.lt_or_ge j 78 with h78 | h78
              · have hz : j = 77 := by omega
                subst hz
                exact xmc_77
              · have hz : j = 78 := by omega
                subst hz
                exact xmc_78
            · rcases Nat.lt_or_ge j 80 with h80 | h80
              · have hz : j = 79 := by omega
                subst hz
                exact xmc_79
              · have hz : j = 80 := by omega
                subst hz
                exact xmc_80
          · rcases Nat.lt_or_ge j 83 with h83 | h83
            · rcases Nat.lt_or_ge j 82 with h82 | h82
              · have hz : j = 81 := by omega
                subst hz
                exact xmc_81
              · have hz : j = 82 := by omega
                subst hz
                exact xmc_82
            · rcases Nat.lt_or_ge j 84 with h84 | h84
              · have hz : j = 83 := by omega
                subst hz
                exact xmc_83
              · rcases Nat.lt_or_ge j 85 with h85 | h85
                · have hz : j = 84 := by omega
                  subst hz
                  exact xmc_84
                · have hz : j = 85 := by omega
                  subst hz
                  exact xmc_85
        · rcases Nat.lt_or_ge j 91 with h91 | h91
          · rcases Nat.lt_or_ge j 88 with h88 | h88
            · rcases Nat.lt_or_ge j 87 with h87 | h87
              · have hz : j = 86 := by omega
                subst hz
                exact xmc_86
              · have hz : j = 87 := by omega
                subst hz
                exact xmc_87
            · rcases Nat.lt_or_ge j 89 with h89 | h89
              · have hz : j = 88 := by omega
                subst hz
                exact xmc_88
              · rcases Nat.lt_or_ge j 90 with h90 | h90
                · have hz : j = 89 := by omega
                  subst hz
                  exact xmc_89
                · have hz : j = 90 := by omega
                  subst hz
                  exact xmc_90
          · rcases Nat.lt_or_ge j 93 with h93 | h93
            · rcases Nat.lt_or_ge j 92 with h92 | h92
              · have hz : j = 91 := by omega
                subst hz
                exact xmc_91
              · have hz : j = 92 := by omega
                subst hz
                exact xmc_92
            · rcases Nat.lt_or_ge j 94 with h94 | h94
              · have hz : j = 93 := by omega
                subst hz
                exact xmc_93
              · rcases Nat.lt_or_ge j 95 with h95 | h95
                · have hz : j = 94 := by omega
                  subst hz
                  exact xmc_94
                · have hz : j = 95 := by omega
                  subst hz
                  exact xmc_95
      · rcases Nat.lt_or_ge j 106 with h106 | h106
        · rcases Nat.lt_or_ge j 101 with h101 | h101
          · rcases Nat.lt_or_ge j 98 with h98 | h98
            · rcases Nat.lt_or_ge j 97 with h97 | h97
              · have hz : j = 96 := by omega
                subst hz
                exact xmc_96
              · have hz : j = 97 := by omega
                subst hz
                exact xmc_97
            · rcases Nat.lt_or_ge j 99 with h99 | h99
              · have hz : j = 98 := by omega
                subst hz
                exact xmc_98
              · rcases Nat.lt_or_ge j 100 with h100 | h100
                · have hz : j = 99 := by omega
                  subst hz
                  exact xmc_99
                · have hz : j = 100 := by omega
                  subst hz
                  exact xmc_100
          · rcases Nat.lt_or_ge j 103 with h103 | h103
            · rcases Nat.lt_or_ge j 102 with h102 | h102
              · have hz : j = 101 := by omega
                subst hz
                exact xmc_101
              · have hz : j = 102 := by omega
                subst hz
                exact xmc_102
            · rcases Nat.lt_or_ge j 104 with h104 | h104
              · have hz : j = 103 := by omega
                subst hz
                exact xmc_103
              · rcases Nat.lt_or_ge j 105 with h105 | h105
                · have hz : j = 104 := by omega
                  subst hz
                  exact xmc_104
                · have hz : j = 105 := by omega
                  subst hz
                  exact xmc_105
        · rcases Nat.lt_or_ge j 111 with h111 | h111
          · rcases Nat.lt_or_ge j 108 with h108 | h108
            · rcases Nat.lt_or_ge j 107 with h107 | h107
              · have hz : j = 106 := by omega
                subst hz
                exact xmc_106
              · have hz : j = 107 := by omega
                subst hz
                exact xmc_107
            · rcases Nat.lt_or_ge j 109 with h109 | h109
              · have hz : j = 108 := by omega
                subst hz
                exact xmc_108
              · rcases Nat.lt_or_ge j 110 with h110 | h110
                · have hz : j = 109 := by omega
                  subst hz
                  exact xmc_109
                · have hz : j = 110 := by omega
                  subst hz
                  exact xmc_110
          · rcases Nat.lt_or_ge j 113 with h113 | h113
            · rcases Nat.lt_or_ge j 112 with h112 | h112
              · have hz : j = 111 := by omega
                subst hz
                exact xmc_111
              · have hz : j = 112 := by omega
                subst hz
                exact xmc_112
            · rcases Nat.lt_or_ge j 114 with h114 | h114
              · have hz : j = 113 := by omega
                subst hz
                exact xmc_113
              · rcases Nat.lt_or_ge j 115 with h115 | h115
                · have hz : j = 114 := by omega
                  subst hz
                  exact xmc_114
                · have hz : j = 115 := by omega
                  subst hz
                  exact xmc_115
    · rcases Nat.lt_or_ge j 135 with h135 | h135
      · rcases Nat.lt_or_ge j 125 with h125 | h125
        · rcases Nat.lt_or_ge j 120 with h120 | h120
          · rcases Nat.lt_or_ge j 118 with h118 | h118
            · rcases Nat.lt_or_ge j 117 with h117 | h117
              · have hz : j = 116 := by omega
                subst hz
                exact xmc_116
              · have hz : j = 117 := by omega
                subst hz
                exact xmc_117
            · rcases Nat.lt_or_ge j 119 with h119 | h119
              · have hz : j = 118 := by omega
                subst hz
                exact xmc_118
              · have hz : j = 119 := by omega
                subst hz
                exact xmc_119
          · rcases Nat.lt_or_ge j 122 with h122 | h122
            · rcases Nat.lt_or_ge j 121 with h121 | h121
              · have hz : j = 120 := by omega
                subst hz
                exact xmc_120
              · have hz : j = 121 := by omega
                subst hz
                exact xmc_121
            · rcases Nat.lt_or_ge j 123 with h123 | h123
              · have hz : j = 122 := by omega
                subst hz
                exact xmc_122
              · rcases Nat.lt_or_ge j 124 with h124 | h124
                · have hz : j = 123 := by omega
                  subst hz
                  exact xmc_123
                · have hz : j = 124 := by omega
                  subst hz
                  exact xmc_124
        · rcases Nat.lt_or_ge j 130 with h130 | h130
          · rcases Nat.lt_or_ge j 127 with h127 | h127
            · rcases Nat.lt_or_ge j 126 with h126 | h126
              · have hz : j = 125 := by omega
                subst hz
                exact xmc_125
              · have hz : j = 126 := by omega
                subst hz
                exact xmc_126
            · rcases Nat.lt_or_ge j 128 with h128 | h128
              · have hz : j = 127 := by omega
                subst hz
                exact xmc_127
              · rcases Nat.lt_or_ge j 129 with h129 | h129
                · have hz : j = 128 := by omega
                  subst hz
                  exact xmc_128
                · have hz : j = 129 := by omega
                  subst hz
                  exact xmc_129
          · rcases Nat.lt_or_ge j 132 with h132 | h132
            · rcases Nat.lt_or_ge j 131 with h131 | h131
              · have hz : j = 130 := by omega
                subst hz
                exact xmc_130
              · have hz : j = 131 := by omega
                subst hz
                exact xmc_131
            · rcases Nat.lt_or_ge j 133 with h133 | h133
              · have hz : j = 132 := by omega
                subst hz
                exact xmc_132
              · rcases Nat.lt_or_ge j 134 with h134 | h134
                · have hz : j = 133 := by omega
                  subst hz
                  exact xmc_133
                · have hz : j = 134 := by omega
                  subst hz
                  exact xmc_134
      · rcases Nat.lt_or_ge j 145 with h145 | h145
        · rcases Nat.lt_or_ge j 140 with h140 | h140
          · rcases Nat.lt_or_ge j 137 with h137 | h137
            · rcases Nat.lt_or_ge j 136 with h136 | h136
              · have hz : j = 135 := by omega
                subst hz
                exact xmc_135
              · have hz : j = 136 := by omega
                subst hz
                exact xmc_136
            · rcases Nat.lt_or_ge j 138 with h138 | h138
              · have hz : j = 137 := by omega
                subst hz
                exact xmc_137
              · rcases Nat.lt_or_ge j 139 with h139 | h139
                · have hz : j = 138 := by omega
                  subst hz
                  exact xmc_138
                · have hz : j = 139 := by omega
                  subst hz
                  exact xmc_139
          · rcases Nat.lt_or_ge j 142 with h142 | h142
            · rcases Nat.lt_or_ge j 141 with h141 | h141
              · have hz : j = 140 := by omega
                subst hz
                exact xmc_140
              · have hz : j = 141 := by omega
                subst hz
                exact xmc_141
            · rcases Nat.lt_or_ge j 143 with h143 | h143
              · have hz : j = 142 := by omega
                subst hz
                exact xmc_142
              · rcases Nat.lt_or_ge j 144 with h144 | h144
                · have hz : j = 143 := by omega
                  subst hz
                  exact xmc_143
                · have hz : j = 144 := by omega
                  subst hz
                  exact xmc_144
        · rcases Nat.lt_or_ge j 150 with h150 | h150
          · rcases Nat.lt_or_ge j 147 with h147 | h147
            · rcases Nat.lt_or_ge j 146 with h146 | h146
              · have hz : j = 145 := by omega
                subst hz
                exact xmc_145
              · have hz : j = 146 := by omega
                subst hz
                exact xmc_146
            · rcases Nat.lt_or_ge j 148 with h148 | h148
              · have hz : j = 147 := by omega
                subst hz
                exact xmc_147
              · rcases Nat.lt_or_ge j 149 with h149 | h149
                · have hz : j = 148 := by omega
                  subst hz
                  exact xmc_148
                · have hz : j = 149 := by omega
                  subst hz
                  exact xmc_149
          · rcases Nat.lt_or_ge j 152 with h152 | h152
            · rcases Nat.lt_or_ge j 151 with h151 | h151
              · have hz : j = 150 := by omega
                subst hz
                exact xmc_150
              · have hz : j = 151 := by omega
                subst hz
                exact xmc_151
            · rcases Nat.lt_or_ge j 153 with h153 | h153
              · have hz : j = 152 := by omega
                subst hz
                exact xmc_152
              · rcases Nat.lt_or_ge j 154 with h154 | h154
                · have hz : j = 153 := by omega
                  subst hz
                  exact xmc_153
                · have hz : j = 154 := by omega
                  subst hz
                  exact xmc_154
end
section
/-! the checks of methods, together -/
theorem xmok_all : (List.range 154).all xmok = true := by decide +kernel
theorem xckm_all : ∀ i, i < 156 → xckm i = true := by
  intro i hi
  by_cases h13 : i < 13
  · exact List.all_eq_true.mp xck_0 i (List.mem_range'_1.mpr ⟨by omega, by omega⟩)
  by_cases h26 : i < 26
  · exact List.all_eq_true.mp xck_13 i (List.mem_range'_1.mpr ⟨by omega, by omega⟩)
  by_cases h39 : i < 39
  · exact List.all_eq_true.mp xck_26 i (List.mem_range'_1.mpr ⟨by omega, by omega⟩)
  by_cases h52 : i < 52
  · exact List.all_eq_true.mp xck_39 i (List.mem_range'_1.mpr ⟨by omega, by omega⟩)
  by_cases h65 : i < 65
  · exact List.all_eq_true.mp xck_52 i (List.mem_range'_1.mpr ⟨by omega, by omega⟩)
  by_cases h78 : i < 78
  · exact List.all_eq_true.mp xck_65 i (List.mem_range'_1.mpr ⟨by omega, by omega⟩)
  by_cases h91 : i < 91
  · exact List.all_eq_true.mp xck_78 i (List.mem_range'_1.mpr ⟨by omega, by omega⟩)
  by_cases h104 : i < 104
  · exact List.all_eq_true.mp xck_91 i (List.mem_range'_1.mpr ⟨by omega, by omega⟩)
  by_cases h117 : i < 117
  · exact List.all_eq_true.mp xck_104 i (List.mem_range'_1.mpr ⟨by omega, by omega⟩)
  by_cases h130 : i < 130
  · exact List.all_eq_true.mp xck_117 i (List.mem_range'_1.mpr ⟨by omega, by omega⟩)
  by_cases h143 : i < 143
  · exact List.all_eq_true.mp xck_130 i (List.mem_range'_1.mpr ⟨by omega, by omega⟩)
  by_cases h150 : i < 150
  · exact List.all_eq_true.mp xck_143 i (List.mem_range'_1.mpr ⟨by omega, by omega⟩)
  by_cases h155 : i < 155
  · exact List.all_eq_true.mp xck_150 i (List.mem_range'_1.mpr ⟨by omega, by omega⟩)
  by_cases h156 : i < 156
  · exact List.all_eq_true.mp xck_155 i (List.mem_range'_1.mpr ⟨by omega, by omega⟩)
  exact absurd hi h156
theorem xpos_all : (List.range 156).all (fun i => Nat.blt 0 (xMt i).2.2.2.2.2.2.2) = true := by decide +kernel
theorem xpos (i : Nat) (hi : i < 156) : 0 < (xMt i).2.2.2.2.2.2.2 := Nat.le_of_ble_eq_true (List.all_eq_true.mp xpos_all i (List.mem_range.mpr hi))
theorem xmok_of {j : Nat} (h : j < 154) : xmok j = true := List.all_eq_true.mp xmok_all j (List.mem_range.mpr h)
theorem xchk_of {i pc : Nat} {e : xEn} (hi : i < 156) (h : xfind i pc = some e) : xchk i pc e = true := by
  unfold xfind at h
  cases hb : Nat.ble pc ((xMt i).2.2.2.2.2.2.2 - 1) with
  | false => rw [hb] at h; cases h
  | true =>
    rw [hb] at h
    have h1 := xckm_all i hi
    unfold xckm at h1
    have hle : pc ≤ (xMt i).2.2.2.2.2.2.2 - 1 := Nat.le_of_ble_eq_true hb
    by_cases hz : pc < (xMt i).2.2.2.2.2.2.2
    · have h2 := List.all_eq_true.mp h1 pc (List.mem_range.mpr hz)
      have h3 : xI i pc = some e := h
      rw [h3] at h2
      exact h2
    · exact absurd (xpos i hi) (by omega)
end
section
/-! the world: a heap of numbered cells laid over the machine's heap -/
def xad (bs : Nat → Nat) (k : Nat) : Nat := if k < 3 then bs k else bs 3 + (k - 3)
def xvm (bs : Nat → Nat) (v : Value) : Value := match v with
  | .ref k => .ref (xad bs k)
  | .int x => .int x
  | .long x => .long x
  | .float x => .float x
  | .double x => .double x
  | .null => .null
  | .retAddr x => .retAddr x
def xent (bs : Nat → Nat) (tc : Nat → ClassId) (c : xLC) : va_E := match c with
  | .inl (t, len, .inl f) => .inl (tc t, len, .inl f)
  | .inl (t, len, .inr f) => .inl (tc t, len, .inr (.inr (.inr (.inr (fun j => (f j).map (xad bs))))))
  | .inr (ci, fs) => .inr (ci, fs.map (xvm bs))
def xws (bs : Nat → Nat) (tc : Nat → ClassId) (h : xHp) (n : Nat) : va_W := (List.range (n - 3)).map (fun j => (xad bs (j + 3), xent bs tc (h (j + 3))))
def xtys (tc : Nat → ClassId) : List (ClassId × FieldType) := [(tc 0, .int), (tc 1, .boolean), (tc 2, .char), (tc 3, .object "BraidHorns$Track"), (tc 4, .object "BraidHorns$Carrier")]
def xA (bs : Nat → Nat) : Nat → Prop := fun q => bs 3 ≤ q
def xlm (bs : Nat → Nat) (ls : xLs) : xLs := ls.map (fun q => (q.1, xvm bs q.2))
theorem xvm_cat (bs : Nat → Nat) (v : Value) : (xvm bs v).category = v.category := by cases v <;> rfl
theorem xws_get {bs : Nat → Nat} {tc : Nat → ClassId} {h : xHp} {n k : Nat} (h3 : 3 ≤ k) (hn : k < n) : (xws bs tc h n)[k - 3]? = some (xad bs k, xent bs tc (h k)) := by
  have e : k - 3 + 3 = k := by omega
  unfold xws
  rw [List.getElem?_map, List.getElem?_range (by omega)]
  simp only [Option.map_some, e]
theorem xws_len {bs : Nat → Nat} {tc : Nat → ClassId} {h : xHp} {n : Nat} : (xws bs tc h n).length = n - 3 := by simp [xws]
theorem xws_set {bs : Nat → Nat} {tc : Nat → ClassId} {h : xHp} {n k : Nat} (c : xLC) (h3 : 3 ≤ k) (hn : k < n) : (xws bs tc h n).set (k - 3) (xad bs k, xent bs tc c) = xws bs tc (xup h k c) n := by
  apply List.ext_getElem?
  intro j
  rw [List.getElem?_set, xws_len]
  by_cases hj : j < n - 3
  · have e1 := xws_get (bs := bs) (tc := tc) (h := h) (n := n) (k := j + 3) (by omega) (by omega)
    have e2 := xws_get (bs := bs) (tc := tc) (h := xup h k c) (n := n) (k := j + 3) (by omega) (by omega)
    have e3 : j + 3 - 3 = j := by omega
    rw [e3] at e1 e2
    rw [e1, e2]
    by_cases hq : k - 3 = j
    · have hk : j + 3 = k := by omega
      rw [if_pos hq, if_pos (by omega), hk]
      simp [xup]
    · rw [if_neg hq]
      have hk : ¬ j + 3 = k := by omega
      simp [xup, hk]
  · have l1 : (xws bs tc h n)[j]? = none := List.getElem?_eq_none (by rw [xws_len]; omega)
    have l2 : (xws bs tc (xup h k c) n)[j]? = none := List.getElem?_eq_none (by rw [xws_len]; omega)
    rw [l1, l2, if_neg (by omega)]
theorem xws_push {bs : Nat → Nat} {tc : Nat → ClassId} {h : xHp} {n : Nat} (c : xLC) (h3 : 3 ≤ n) : xws bs tc h n ++ [(bs 3 + (n - 3), xent bs tc c)] = xws bs tc (xup h n c) (n + 1) := by
  have e : n + 1 - 3 = (n - 3) + 1 := by omega
  have e2 : n - 3 + 3 = n := by omega
  unfold xws
  rw [e, List.range_succ, List.map_append]
  congr 1
  · apply List.map_congr_left
    intro j hj
    have := List.mem_range.mp hj
    have hk : ¬ j + 3 = n := by omega
    simp [xup, hk]
  · simp only [List.map_cons, List.map_nil, e2]
    have hn : ¬ n < 3 := by omega
    simp [xup, xad, hn]
theorem xws_D {bs : Nat → Nat} {tc : Nat → ClassId} {h : xHp} {n : Nat} : va_D (xA bs) (xws bs tc h n) := by
  have key : ∀ (i : Nat) (p : Nat × va_E), (xws bs tc h n)[i]? = some p → p.1 = bs 3 + i := by
    intro i p hp
    have hi : i < n - 3 := by have := (List.getElem?_eq_some_iff.mp hp).1; rwa [xws_len] at this
    have e1 := xws_get (bs := bs) (tc := tc) (h := h) (n := n) (k := i + 3) (by omega) (by omega)
    have e3 : i + 3 - 3 = i := by omega
    rw [e3] at e1
    rw [e1] at hp
    cases hp
    show xad bs (i + 3) = bs 3 + i
    unfold xad
    rw [if_neg (by omega)]
    omega
  refine ⟨fun i j p q hi hj e => ?_, fun k q hk => ?_⟩
  · have := key i p hi
    have := key j q hj
    omega
  · have := key k q hk
    show bs 3 ≤ q.1
    omega
/-- the heap holds the numbered cells -/
def xHd (D : va_G) (bs : Nat → Nat) (tc : Nat → ClassId) (h : xHp) (n : Nat) (H : Heap) : Prop := 3 ≤ n ∧ (∀ k, n ≤ k → h k = xNo) ∧ va_P D xcl (xws bs tc h n) H ∧ H.size = bs 3 + (n - 3)
/-- the three cells that nobody writes: the script and two tables -/
def xRo (bs : Nat → Nat) (h : xHp) (U : State) (H : Heap) : Prop := ∀ k, k < 3 → ∃ (len : Nat) (f : Nat → Int32), h k = .inl (0, len, .inl f) ∧ va_X (bs k) len f U H ∧ bs k < bs 3
/-- what the machine says of its tables, the same all along -/
def xCx (D : va_G) (bs : Nat → Nat) (tc : Nat → ClassId) (U : State) (H : Heap) : Prop :=
  va_K D xcl (xtys tc) U ∧ va_Z "BraidHorns" "LOWEST" "[I" (.ref (bs 1)) (xA bs) U H ∧ va_Z "BraidHorns" "HIGHEST" "[I" (.ref (bs 2)) (xA bs) U H ∧ va_AO "BraidHorns$Track" U ∧ va_AO "BraidHorns$Carrier" U ∧
  va_Nw (.fieldLinkNest "BraidHorns$Track" 121 "BraidHorns" "LOWEST" "[I" "BraidHorns") U ∧ va_Nw (.fieldLinkNest "BraidHorns$Track" 95 "BraidHorns" "HIGHEST" "[I" "BraidHorns") U ∧ va_Nw (.methodLinkNest "BraidHorns$Track" 21 ⟨"BraidHorns$Carrier", "<init>", "()V"⟩ "BraidHorns") U
theorem xRo.moved {bs : Nat → Nat} {h : xHp} {u U : State} {H H1 : Heap} (hvm : u.vm.Alike U.vm) (hq : ∀ q, q < bs 3 → H1[q]? = H[q]?) (hr : xRo bs h u H) : xRo bs h U H1 := by
  intro k hk
  obtain ⟨len, f, h1, h2, h3⟩ := hr k hk
  exact ⟨len, f, h1, (h2.kept (hq _ h3)).moved hvm, h3⟩
theorem xCx.moved {D : va_G} {bs : Nat → Nat} {tc : Nat → ClassId} {u U : State} {H H1 : Heap} (hW : u.WarmedH U.vm) (hq : ∀ q, q < bs 3 → H1[q]? = H[q]?) (hc : xCx D bs tc u H) : xCx D bs tc U H1 := by
  obtain ⟨h1, h2, h3, h4, h5, h6, h7, h8⟩ := hc
  exact ⟨h1.moved hW.alike, (h2.kept (fun a _ ha => hq a (Nat.not_le.mp ha))).moved hW.alike, (h3.kept (fun a _ ha => hq a (Nat.not_le.mp ha))).moved hW.alike, h4.moved hW.alike, h5.moved hW.alike, h6.warmF hW, h7.warmF hW, h8.warmM hW⟩
theorem xHd.lt {D : va_G} {bs : Nat → Nat} {tc : Nat → ClassId} {h : xHp} {n : Nat} {H : Heap} (hh : xHd D bs tc h n H) {k : Nat} (hk : h k ≠ xNo) : k < n := Nat.not_le.mp fun q => hk (hh.2.1 k q)
/-- the write of a cell -/
theorem xHd.put {D : va_G} {bs : Nat → Nat} {tc : Nat → ClassId} {h : xHp} {n k : Nat} {H H1 : Heap} {c : xLC} (hh : xHd D bs tc h n H) (h3 : 3 ≤ k) (hn : k < n) (hP : va_P D xcl ((xws bs tc h n).set (k - 3) (xad bs k, xent bs tc c)) H1) (hz : H1.size = H.size) : xHd D bs tc (xup h k c) n H1 := by
  refine ⟨hh.1, fun j hj => ?_, by rw [← xws_set c h3 hn]; exact hP, by rw [hz]; exact hh.2.2.2⟩
  have hk : ¬ j = k := by omega
  simp only [xup, if_neg hk]
  exact hh.2.1 j hj
theorem xRo.put {bs : Nat → Nat} {h : xHp} {U : State} {H : Heap} {k : Nat} {c : xLC} (hr : xRo bs h U H) (h3 : 3 ≤ k) : xRo bs (xup h k c) U H := by
  intro j hj
  obtain ⟨len, f, h1, h2⟩ := hr j hj
  exact ⟨len, f, by simp only [xup, if_neg (show ¬ j = k by omega)]; exact h1, h2⟩
theorem xlm_ld {bs : Nat → Nat} {ls : xLs} {i : Nat} {v : Value} (h : xld ls i = some v) : (i, xvm bs v) ∈ xlm bs ls := by
  induction ls with
  | nil => cases h
  | cons q r ih =>
    unfold xld at h
    cases hb : Nat.beq q.1 i with
    | true =>
      rw [hb] at h
      have e : q.1 = i := Nat.eq_of_beq_eq_true hb
      have e2 : q.2 = v := Option.some.inj h
      unfold xlm
      rw [List.map_cons, e, e2]
      exact List.mem_cons_self
    | false =>
      rw [hb] at h
      exact List.mem_cons_of_mem _ (ih h)
theorem xlm_st1 {bs : Nat → Nat} {ls : xLs} {i : Nat} {v : Value} : (i, xvm bs v) :: (xlm bs ls).filter (fun q => !(q.1 == i) && !(q.1 + 1 == i && q.2.category == 2)) = xlm bs (xst1 ls i v) := by
  unfold xst1 xlm
  rw [List.map_cons, List.filter_map]
  congr 2
  apply List.filter_congr
  intro q _
  simp only [Function.comp, xvm_cat]
theorem xlm_st2 {bs : Nat → Nat} {ls : xLs} {i : Nat} {v : Value} : (i, xvm bs v) :: (xlm bs ls).filter (fun q => !(q.1 == i) && (!(q.1 == i + 1) && !(q.1 + 1 == i && q.2.category == 2))) = xlm bs (xst2 ls i v) := by
  unfold xst2 xlm
  rw [List.map_cons, List.filter_map]
  congr 2
  apply List.filter_congr
  intro q _
  simp only [Function.comp, xvm_cat]
theorem xlm_args {bs : Nat → Nat} (vs : List Value) : ∀ i, lv_args i (vs.map (xvm bs)) = xlm bs (lv_args i vs) := by
  induction vs with
  | nil => intro i; rfl
  | cons v vs ih =>
    intro i
    show (i, xvm bs v) :: lv_args (if (xvm bs v).category = 2 then i + 2 else i + 1) (vs.map (xvm bs)) = (i, xvm bs v) :: xlm bs (lv_args (if v.category = 2 then i + 2 else i + 1) vs)
    rw [xvm_cat, ih]
theorem xcw_map {bs : Nat → Nat} (st : List Value) : ((st.map (xvm bs)).map fun v => v.category).sum = xcw st := by
  unfold xcw
  rw [List.map_map]
  congr 1
  apply List.map_congr_left
  intro v _
  exact xvm_cat bs v
theorem xfit_vm {bs : Nat → Nat} (ty : FieldType) (v : Value) : fits ty (xvm bs v) = fits ty v := by cases v <;> cases ty <;> rfl
theorem xfit_nar {ty : FieldType} {x : Int32} (h : ty = .boolean ∨ ty = .int) (hf : fits ty (.int x) = true) : narrow ty (.int x) = .int x := by
  rcases h with rfl | rfl
  · have h2 : (x == 0 || x == 1) = true := hf
    simp only [Bool.or_eq_true, beq_iff_eq] at h2
    rcases h2 with rfl | rfl <;> decide
  · rfl
end
section
/-! an instruction of the interpreter is a step of the machine -/
theorem xgo_some {pc : Nat} {ls : xLs} {st : List Value} {h : xHp} {n pc1 : Nat} {ls1 : xLs} {st1 : List Value} {h1 : xHp} {n1 kc ks : Nat} (hs : xgo pc ls st h n = some (pc1, ls1, st1, h1, n1, kc, ks)) : pc = pc1 ∧ ls = ls1 ∧ st = st1 ∧ h = h1 ∧ n = n1 ∧ 0 = kc ∧ 0 = ks := by
  unfold xgo at hs
  injection hs with hs
  injection hs with a1 hs
  injection hs with a2 hs
  injection hs with a3 hs
  injection hs with a4 hs
  injection hs with a5 hs
  injection hs with a6 a7
  exact ⟨a1, a2, a3, a4, a5, a6, a7⟩
theorem xpI_some {α : Type} {st : List Value} {k : Int32 → List Value → Option α} {z : α} (h : xpI st k = some z) : ∃ x r, st = .int x :: r ∧ k x r = some z := by
  unfold xpI at h
  split at h
  · exact ⟨_, _, rfl, h⟩
  · cases h
theorem xpL_some {α : Type} {st : List Value} {k : Int64 → List Value → Option α} {z : α} (h : xpL st k = some z) : ∃ x r, st = .long x :: r ∧ k x r = some z := by
  unfold xpL at h
  split at h
  · exact ⟨_, _, rfl, h⟩
  · cases h
theorem xpR_some {α : Type} {st : List Value} {k : Nat → List Value → Option α} {z : α} (h : xpR st k = some z) : ∃ x r, st = .ref x :: r ∧ k x r = some z := by
  unfold xpR at h
  split at h
  · exact ⟨_, _, rfl, h⟩
  · cases h
theorem xpV_some {α : Type} {st : List Value} {k : Value → List Value → Option α} {z : α} (h : xpV st k = some z) : ∃ x r, st = x :: r ∧ k x r = some z := by
  unfold xpV at h
  split at h
  · exact ⟨_, _, rfl, h⟩
  · cases h
theorem xgI_some {α : Type} {v : Option Value} {k : Int32 → Option α} {z : α} (h : xgI v k = some z) : ∃ x, v = some (.int x) ∧ k x = some z := by
  unfold xgI at h
  split at h
  · exact ⟨_, rfl, h⟩
  · cases h
theorem xgL_some {α : Type} {v : Option Value} {k : Int64 → Option α} {z : α} (h : xgL v k = some z) : ∃ x, v = some (.long x) ∧ k x = some z := by
  unfold xgL at h
  split at h
  · exact ⟨_, rfl, h⟩
  · cases h
theorem xgR_some {α : Type} {v : Option Value} {k : Nat → Option α} {z : α} (h : xgR v k = some z) : ∃ x, v = some (.ref x) ∧ k x = some z := by
  unfold xgR at h
  split at h
  · exact ⟨_, rfl, h⟩
  · cases h
theorem xgO_some {α β : Type} {v : Option β} {k : β → Option α} {z : α} (h : xgO v k = some z) : ∃ x, v = some x ∧ k x = some z := by
  unfold xgO at h
  split at h
  · exact ⟨_, rfl, h⟩
  · cases h
theorem xcI_some {α : Type} {c : xLC} {k : Nat → Nat → (Nat → Int32) → Option α} {z : α} (h : xcI c k = some z) : ∃ t len f, c = .inl (t, len, .inl f) ∧ k t len f = some z := by
  unfold xcI at h
  split at h
  · exact ⟨_, _, _, rfl, h⟩
  · cases h
theorem xcQ_some {α : Type} {c : xLC} {k : Nat → Nat → (Nat → Option Nat) → Option α} {z : α} (h : xcQ c k = some z) : ∃ t len f, c = .inl (t, len, .inr f) ∧ k t len f = some z := by
  unfold xcQ at h
  split at h
  · exact ⟨_, _, _, rfl, h⟩
  · cases h
theorem xcO_some {α : Type} {c : xLC} {k : Nat → List Value → Option α} {z : α} (h : xcO c k = some z) : ∃ ci fs, c = .inr (ci, fs) ∧ k ci fs = some z := by
  unfold xcO at h
  split at h
  · exact ⟨_, _, rfl, h⟩
  · cases h
theorem xcN_some {α : Type} {c : xLC} {k : Nat → Nat → Option α} {z : α} (h : xcN c k = some z) : ∃ t len f, c = .inl (t, len, f) ∧ k t len = some z := by
  unfold xcN at h
  split at h
  · exact ⟨_, _, _, rfl, h⟩
  · cases h
theorem xgd_some {α : Type} {b : Bool} {a : Option α} {z : α} (h : xgd b a = some z) : b = true ∧ a = some z := by
  cases b
  · cases h
  · exact ⟨rfl, h⟩
theorem xgp_some {α : Type} {c : Prop} [Decidable c] {a : Option α} {z : α} (h : xgp c a = some z) : c ∧ a = some z := by
  unfold xgp at h
  split at h
  · next hc => exact ⟨hc, h⟩
  · cases h
theorem xcl_ok {ci : Nat} {C : String} {T : u_T} {N : Nat} (h : xcl[ci]? = some (C, T, N)) : (∀ w ∈ u_ws C T N, w ∈ xT) ∧ (∀ k, k < N → (T k).1 = C) ∧ (∀ k, k < N → parseFieldDescriptor (T k).2.2.1 = some (xfty ci k)) ∧ (∀ a, a < N → ∀ b, b < N → a ≠ b → (T a).2.1 ≠ (T b).2.1) ∧ (∀ k, k < N → defaultValue (xfty ci k) = vp_V ((xdef ci).map (fun v => v)) k) ∧ ci < 5 ∧ xcls ci = N := by
  match ci, h with
  | 0, h => cases h; exact ⟨by decide +kernel, by decide +kernel, tyX0_ok, nmX0, by decide +kernel, by omega, rfl⟩
  | 1, h => cases h; exact ⟨by decide +kernel, by decide +kernel, tyX2_ok, nmX2, by decide +kernel, by omega, rfl⟩
  | 2, h => cases h; exact ⟨by decide +kernel, by decide +kernel, tyX3_ok, nmX3, by decide +kernel, by omega, rfl⟩
  | 3, h => cases h; exact ⟨by decide +kernel, by decide +kernel, tyX4_ok, nmX4, by decide +kernel, by omega, rfl⟩
  | 4, h => cases h; exact ⟨by decide +kernel, by decide +kernel, tyX5_ok, nmX5, by decide +kernel, by omega, rfl⟩
  | k + 5, h => simp [xcl] at h
def xftok (ty : FieldType) : Bool := match ty with | .int => true | .boolean => true | .object _ => true | .array _ => true | _ => false
theorem xfty_ok {ci : Nat} {C : String} {T : u_T} {N : Nat} (h : xcl[ci]? = some (C, T, N)) : ∀ k, k < N → xftok (xfty ci k) = true := by
  match ci, h with
  | 0, h => cases h; decide +kernel
  | 1, h => cases h; decide +kernel
  | 2, h => cases h; decide +kernel
  | 3, h => cases h; decide +kernel
  | 4, h => cases h; decide +kernel
  | k + 5, h => simp [xcl] at h
theorem xfit_all {ty : FieldType} (h : xftok ty = true) (v : Value) (hf : fits ty v = true) : narrow ty v = v := by
  cases ty
  case int => cases v <;> rfl
  case boolean =>
    cases v
    case int x => exact xfit_nar (Or.inl rfl) hf
    all_goals rfl
  case object => cases v <;> rfl
  case array => cases v <;> rfl
  all_goals cases h
theorem xfl_some {i idx : Nat} {e : xEn} (h : xfl i e idx = true) : ∃ C T N, xcl[e.2.2.1]? = some (C, T, N) ∧ e.2.2.2.1 < N ∧ Jvm.Cond.fieldLink (xMt i).1.cls idx C (T e.2.2.2.1).2.1 (T e.2.2.2.1).2.2.1 ∈ xT := by
  unfold xfl at h
  split at h
  · next C T N hc =>
    simp only [Bool.and_eq_true] at h
    exact ⟨C, T, N, hc, Nat.le_of_ble_eq_true h.1, xw_mem h.2⟩
  · cases h
theorem xdef_vm (bs : Nat → Nat) (ci : Nat) : (xdef ci).map (xvm bs) = (xdef ci).map (fun v => v) := by
  unfold xdef
  cases Nat.beq ci 0 <;> cases Nat.beq ci 1 <;> cases Nat.beq ci 2 <;> cases Nat.beq ci 3 <;> rfl
/-- what is the same all along a method's run -/
def xFx (p : Program) (s : State) (m : MethodId) (args : Array Value) (meth : Method) (c : Code) (i : Nat) (D : va_G) (bs : Nat → Nat) (tc : Nat → ClassId) : Prop :=
  p.tables.exec = Jvm.exec ∧ c.code = (xMt i).2.1 ∧ c.maxLocals = (xMt i).2.2.1 ∧ s.vm.findClass (xMt i).1.cls = some m.cls ∧ (∀ w ∈ xT, w.before args s = true) ∧ ((xMt i).1.name = "<init>" → meth.name = "<init>") ∧ xCx D bs tc s s.heap ∧ bs 3 ≤ s.heap.size
section XSTEP
variable {p : Program} {l : Launch} {e0 : Env} {R : Room} {s : State} {m : MethodId} {args : Array Value} {below : List Frame} {meth : Method} {c : Code} {H : Heap} {locs : List Loc} {cells slots : Nat} {Q : State → Prop}
variable {D : va_G} {bs : Nat → Nat} {tc : Nat → ClassId} {i d pc : Nat} {ls : xLs} {st : List Value} {h : xHp} {n pc1 : Nat} {ls1 : xLs} {st1 : List Value} {h1 : xHp} {n1 kc ks : Nat} {lsA : Array Slot} {len r1 r2 : Nat} {v0 : Value} {ps : List Nat}
/-- the machine's own bound of the heap -/
theorem xsz {g : JFrame} (kk : H.size ≤ s.heap.size + cells → W p l e0 R s m args below meth c H locs cells slots Q g) : W p l e0 R s m args below meth c H locs cells slots Q g := fun T hT X => kk (by rw [← hT]; exact X.same.2.2.1) T hT X
theorem xS_self (hS : va_S (xA bs) s.heap H locs) : va_S (xA bs) H H locs := ⟨Nat.le_refl _, fun _ _ _ => rfl, hS.2.2⟩
theorem xS_trans {H1 : Heap} {locs1 : List Loc} (hS : va_S (xA bs) s.heap H locs) (h2 : va_S (xA bs) H H1 locs1) : va_S (xA bs) s.heap H1 locs1 := ⟨Nat.le_trans hS.1 h2.1, fun q a b => (h2.2.1 q (Nat.lt_of_lt_of_le a hS.1) b).trans (hS.2.1 q a b), h2.2.2⟩
/-- behind the write of a cell -/
theorem xstore {k : Nat} {c1 : xLC} {H1 : Heap} {locs1 : List Loc} (hH : xHd D bs tc h n H) (hS : va_S (xA bs) s.heap H locs) (hz : bs 3 + (n - 3) = s.heap.size + cells) (h3 : 3 ≤ k) (hn : k < n) (hP : va_P D xcl ((xws bs tc h n).set (k - 3) (xad bs k, xent bs tc c1)) H1) (hS1 : va_S (xA bs) H H1 locs1) (hle : H1.size ≤ s.heap.size + cells) : xHd D bs tc (xup h k c1) n H1 ∧ va_S (xA bs) s.heap H1 locs1 :=
  ⟨hH.put h3 hn hP (by have e1 := hH.2.2.2; have e2 := hS1.1; omega), xS_trans hS hS1⟩
/-- behind a new cell -/
theorem xnew {c1 : xLC} {q : Nat} {H1 : Heap} {locs1 : List Loc} (hH : xHd D bs tc h n H) (hS : va_S (xA bs) s.heap H locs) (hz : bs 3 + (n - 3) = s.heap.size + cells) (hP : va_P D xcl (xws bs tc h n ++ [(q, xent bs tc c1)]) H1) (hD : va_D (xA bs) (xws bs tc h n ++ [(q, xent bs tc c1)])) (hS1 : va_S (xA bs) H H1 locs1) (hle : H1.size ≤ s.heap.size + (cells + 1)) : q = xad bs n ∧ xHd D bs tc (xup h n c1) (n + 1) H1 ∧ va_S (xA bs) s.heap H1 locs1 := by
  have e1 := hH.2.2.2
  have h3 := hH.1
  have hlast : (xws bs tc h n ++ [(q, xent bs tc c1)])[n - 3]? = some (q, xent bs tc c1) := by
    rw [List.getElem?_append_right (by rw [xws_len]; omega), xws_len]
    simp
  have hqA : bs 3 ≤ q := hD.2 _ _ hlast
  have hql : q < H1.size := (hP _ _ hlast).lt
  have hge : bs 3 + (n - 3) ≤ q := by
    rcases Nat.lt_or_ge q (bs 3 + (n - 3)) with hlt | hge
    · exfalso
      have hj : (xws bs tc h n ++ [(q, xent bs tc c1)])[q - bs 3]? = some (xad bs (q - bs 3 + 3), xent bs tc (h (q - bs 3 + 3))) := by
        rw [List.getElem?_append_left (by rw [xws_len]; omega)]
        have := xws_get (bs := bs) (tc := tc) (h := h) (n := n) (k := q - bs 3 + 3) (by omega) (by omega)
        rw [show q - bs 3 + 3 - 3 = q - bs 3 by omega] at this
        exact this
      have hx : xad bs (q - bs 3 + 3) = q := by
        unfold xad
        rw [if_neg (by omega)]
        omega
      have := hD.1 _ _ _ _ hj hlast hx
      omega
    · exact hge
  have hq : q = bs 3 + (n - 3) := by omega
  have hq2 : xad bs n = bs 3 + (n - 3) := by
    unfold xad
    rw [if_neg (by omega)]
  refine ⟨by rw [hq2]; exact hq, ⟨by omega, fun j hj => ?_, ?_, by omega⟩, xS_trans hS hS1⟩
  · have hjn : ¬ j = n := by omega
    simp only [xup, if_neg hjn]
    exact hH.2.1 j (by omega)
  · rw [← xws_push c1 h3, ← hq]
    exact hP
/-- a cell that is an object -/
theorem xobj {k ci : Nat} {fs : List Value} (hro : xRo bs h s s.heap) (hH : xHd D bs tc h n H) (hk : h k = .inr (ci, fs)) (hci : ci < 5) : 3 ≤ k ∧ k < n ∧ (xws bs tc h n)[k - 3]? = some (xad bs k, .inr (ci, fs.map (xvm bs))) := by
  have h3 : 3 ≤ k := by
    rcases Nat.lt_or_ge k 3 with hlt | hge
    · obtain ⟨len, f, e1, -⟩ := hro k hlt
      rw [hk] at e1
      cases e1
    · exact hge
  have hn : k < n := hH.lt (by
    rw [hk]
    intro e
    injection e with e
    injection e with e e2
    omega)
  refine ⟨h3, hn, ?_⟩
  rw [xws_get h3 hn, hk]
  rfl
theorem xarr {k t len : Nat} {f : Nat → Int32} (hH : xHd D bs tc h n H) (hk : h k = .inl (t, len, .inl f)) (h3 : 3 ≤ k) : k < n ∧ (xws bs tc h n)[k - 3]? = some (xad bs k, .inl (tc t, len, .inl f)) := by
  have hn : k < n := hH.lt (by rw [hk]; intro e; cases e)
  refine ⟨hn, ?_⟩
  rw [xws_get h3 hn, hk]
  rfl
theorem xarq {k t len : Nat} {f : Nat → Option Nat} (hro : xRo bs h s s.heap) (hH : xHd D bs tc h n H) (hk : h k = .inl (t, len, .inr f)) : 3 ≤ k ∧ k < n ∧ (xws bs tc h n)[k - 3]? = some (xad bs k, .inl (tc t, len, .inr (.inr (.inr (.inr (fun j => (f j).map (xad bs))))))) := by
  have h3 : 3 ≤ k := by
    rcases Nat.lt_or_ge k 3 with hlt | hge
    · obtain ⟨len, f, e1, -⟩ := hro k hlt
      rw [hk] at e1
      cases e1
    · exact hge
  have hn : k < n := hH.lt (by rw [hk]; intro e; cases e)
  refine ⟨h3, hn, ?_⟩
  rw [xws_get h3 hn, hk]
  rfl
/-- the premises of a step -/
def xPre (p : Program) (R : Room) (s : State) (m : MethodId) (args : Array Value) (meth : Method) (c : Code) (H : Heap) (locs : List Loc) (cells slots : Nat) (D : va_G) (bs : Nat → Nat) (tc : Nat → ClassId) (i d : Nat) (ls : xLs) (h : xHp) (n : Nat) (lsA : Array Slot) (kc ks : Nat) : Prop :=
  xFx p s m args meth c i D bs tc ∧ xRo bs h s s.heap ∧ xHd D bs tc h n H ∧ va_S (xA bs) s.heap H locs ∧ lv_has lsA (xMt i).2.2.1 (xlm bs ls) ∧ (d ≤ R.frames ∧ 34 * d ≤ R.locals) ∧ cells + kc ≤ R.cells ∧ slots + ks ≤ R.slots ∧ bs 3 + (n - 3) = s.heap.size + cells
/-- what a step needs of what comes behind it -/
def xKk (p : Program) (l : Launch) (e0 : Env) (R : Room) (s : State) (m : MethodId) (args : Array Value) (below : List Frame) (meth : Method) (c : Code) (cells slots : Nat) (Q : State → Prop) (D : va_G) (bs : Nat → Nat) (tc : Nat → ClassId) (i : Nat) (pc1 : Nat) (ls1 : xLs) (st1 : List Value) (h1 : xHp) (n1 kc ks : Nat) : Prop :=
  ∀ (H1 : Heap) (locs1 : List Loc) (lsB : Array Slot), xRo bs h1 s s.heap → xHd D bs tc h1 n1 H1 → va_S (xA bs) s.heap H1 locs1 → lv_has lsB (xMt i).2.2.1 (xlm bs ls1) → bs 3 + (n1 - 3) = s.heap.size + (cells + kc) → W p l e0 R s m args below meth c H1 locs1 (cells + kc) (slots + ks) Q (F0 m pc1 lsB (st1.map (xvm bs)))
theorem xs_iconst (q : Int) (X : xPre p R s m args meth c H locs cells slots D bs tc i d ls h n lsA kc ks) (hdg : decode (xMt i).2.1 pc = .ok (.iconst q, len)) (hci : xchi i pc (.iconst q, len, r1, r2, v0, ps) = true) (hs : xstp d (.iconst q, len, r1, r2, v0, ps) pc ls st h n = some (pc1, ls1, st1, h1, n1, kc, ks))
    (kk : xKk p l e0 R s m args below meth c cells slots Q D bs tc i pc1 ls1 st1 h1 n1 kc ks) : W p l e0 R s m args below meth c H locs cells slots Q (F0 m pc lsA (st.map (xvm bs))) := by
  obtain ⟨⟨hx, hb, hml, hown, hts, hin, hcx, hbs⟩, hro, hH, hS, hl, ⟨hd1, hd2⟩, hc, hk2, hz⟩ := X
  have hci0 := (Bool.and_eq_true _ _ ▸ hci : _ ∧ _)
  obtain ⟨hlen0, hci2⟩ := hci0
  have hlen : len = 1 := Nat.eq_of_beq_eq_true hlen0
  subst hlen
  obtain ⟨x, hv, hs⟩ := xgI_some hs
  have hv2 : v0 = .int x := Option.some.inj hv
  subst hv2
  obtain ⟨rfl, rfl, rfl, rfl, rfl, rfl, rfl⟩ := xgo_some hs
  have hx2 : Int32.ofInt q = x := of_decide_eq_true hci2
  exact lv_iconst hx hb hdg hx2 (kk H locs lsA hro hH hS hl hz)
theorem xs_bipush (q : Int) (X : xPre p R s m args meth c H locs cells slots D bs tc i d ls h n lsA kc ks) (hdg : decode (xMt i).2.1 pc = .ok (.bipush q, len)) (hci : xchi i pc (.bipush q, len, r1, r2, v0, ps) = true) (hs : xstp d (.bipush q, len, r1, r2, v0, ps) pc ls st h n = some (pc1, ls1, st1, h1, n1, kc, ks))
    (kk : xKk p l e0 R s m args below meth c cells slots Q D bs tc i pc1 ls1 st1 h1 n1 kc ks) : W p l e0 R s m args below meth c H locs cells slots Q (F0 m pc lsA (st.map (xvm bs))) := by
  obtain ⟨⟨hx, hb, hml, hown, hts, hin, hcx, hbs⟩, hro, hH, hS, hl, ⟨hd1, hd2⟩, hc, hk2, hz⟩ := X
  have hci0 := (Bool.and_eq_true _ _ ▸ hci : _ ∧ _)
  obtain ⟨hlen0, hci2⟩ := hci0
  have hlen : len = 2 := Nat.eq_of_beq_eq_true hlen0
  subst hlen
  obtain ⟨x, hv, hs⟩ := xgI_some hs
  have hv2 : v0 = .int x := Option.some.inj hv
  subst hv2
  obtain ⟨rfl, rfl, rfl, rfl, rfl, rfl, rfl⟩ := xgo_some hs
  have hx2 : (Int8.ofInt q).toInt32 = x := of_decide_eq_true hci2
  exact lv_bipush hx hb hdg hx2 (kk H locs lsA hro hH hS hl hz)
theorem xs_sipush (q : Int) (X : xPre p R s m args meth c H locs cells slots D bs tc i d ls h n lsA kc ks) (hdg : decode (xMt i).2.1 pc = .ok (.sipush q, len)) (hci : xchi i pc (.sipush q, len, r1, r2, v0, ps) = true) (hs : xstp d (.sipush q, len, r1, r2, v0, ps) pc ls st h n = some (pc1, ls1, st1, h1, n1, kc, ks))
    (kk : xKk p l e0 R s m args below meth c cells slots Q D bs tc i pc1 ls1 st1 h1 n1 kc ks) : W p l e0 R s m args below meth c H locs cells slots Q (F0 m pc lsA (st.map (xvm bs))) := by
  obtain ⟨⟨hx, hb, hml, hown, hts, hin, hcx, hbs⟩, hro, hH, hS, hl, ⟨hd1, hd2⟩, hc, hk2, hz⟩ := X
  have hci0 := (Bool.and_eq_true _ _ ▸ hci : _ ∧ _)
  obtain ⟨hlen0, hci2⟩ := hci0
  have hlen : len = 3 := Nat.eq_of_beq_eq_true hlen0
  subst hlen
  obtain ⟨x, hv, hs⟩ := xgI_some hs
  have hv2 : v0 = .int x := Option.some.inj hv
  subst hv2
  obtain ⟨rfl, rfl, rfl, rfl, rfl, rfl, rfl⟩ := xgo_some hs
  have hx2 : (Int16.ofInt q).toInt32 = x := of_decide_eq_true hci2
  exact lv_sipush hx hb hdg hx2 (kk H locs lsA hro hH hS hl hz)
theorem xs_lconst (q : Fin 2) (X : xPre p R s m args meth c H locs cells slots D bs tc i d ls h n lsA kc ks) (hdg : decode (xMt i).2.1 pc = .ok (.lconst q, len)) (hci : xchi i pc (.lconst q, len, r1, r2, v0, ps) = true) (hs : xstp d (.lconst q, len, r1, r2, v0, ps) pc ls st h n = some (pc1, ls1, st1, h1, n1, kc, ks))
    (kk : xKk p l e0 R s m args below meth c cells slots Q D bs tc i pc1 ls1 st1 h1 n1 kc ks) : W p l e0 R s m args below meth c H locs cells slots Q (F0 m pc lsA (st.map (xvm bs))) := by
  obtain ⟨⟨hx, hb, hml, hown, hts, hin, hcx, hbs⟩, hro, hH, hS, hl, ⟨hd1, hd2⟩, hc, hk2, hz⟩ := X
  have hci0 := (Bool.and_eq_true _ _ ▸ hci : _ ∧ _)
  obtain ⟨hlen0, hci2⟩ := hci0
  have hlen : len = 1 := Nat.eq_of_beq_eq_true hlen0
  subst hlen
  obtain ⟨x, hv, hs⟩ := xgL_some hs
  have hv2 : v0 = .long x := Option.some.inj hv
  subst hv2
  obtain ⟨rfl, rfl, rfl, rfl, rfl, rfl, rfl⟩ := xgo_some hs
  have hx2 : Int64.ofNat (q : Nat) = x := of_decide_eq_true hci2
  exact lv_lconst hx hb hdg hx2 (kk H locs lsA hro hH hS hl hz)
theorem xs_ldc (q : Nat) (X : xPre p R s m args meth c H locs cells slots D bs tc i d ls h n lsA kc ks) (hdg : decode (xMt i).2.1 pc = .ok (.ldc q, len)) (hci : xchi i pc (.ldc q, len, r1, r2, v0, ps) = true) (hs : xstp d (.ldc q, len, r1, r2, v0, ps) pc ls st h n = some (pc1, ls1, st1, h1, n1, kc, ks))
    (kk : xKk p l e0 R s m args below meth c cells slots Q D bs tc i pc1 ls1 st1 h1 n1 kc ks) : W p l e0 R s m args below meth c H locs cells slots Q (F0 m pc lsA (st.map (xvm bs))) := by
  obtain ⟨⟨hx, hb, hml, hown, hts, hin, hcx, hbs⟩, hro, hH, hS, hl, ⟨hd1, hd2⟩, hc, hk2, hz⟩ := X
  have hci0 := (Bool.and_eq_true _ _ ▸ hci : _ ∧ _)
  obtain ⟨hlen0, hci2⟩ := hci0
  have hlen : len = 2 := Nat.eq_of_beq_eq_true hlen0
  subst hlen
  obtain ⟨x, hv, hs⟩ := xgI_some hs
  have hv2 : v0 = .int x := Option.some.inj hv
  subst hv2
  obtain ⟨rfl, rfl, rfl, rfl, rfl, rfl, rfl⟩ := xgo_some hs
  exact lv_ldc hx hb hown (hts _ (xw_mem hci2)) hdg (kk H locs lsA hro hH hS hl hz)
theorem xs_ldc_w (q : Nat) (X : xPre p R s m args meth c H locs cells slots D bs tc i d ls h n lsA kc ks) (hdg : decode (xMt i).2.1 pc = .ok (.ldc_w q, len)) (hci : xchi i pc (.ldc_w q, len, r1, r2, v0, ps) = true) (hs : xstp d (.ldc_w q, len, r1, r2, v0, ps) pc ls st h n = some (pc1, ls1, st1, h1, n1, kc, ks))
    (kk : xKk p l e0 R s m args below meth c cells slots Q D bs tc i pc1 ls1 st1 h1 n1 kc ks) : W p l e0 R s m args below meth c H locs cells slots Q (F0 m pc lsA (st.map (xvm bs))) := by
  obtain ⟨⟨hx, hb, hml, hown, hts, hin, hcx, hbs⟩, hro, hH, hS, hl, ⟨hd1, hd2⟩, hc, hk2, hz⟩ := X
  have hci0 := (Bool.and_eq_true _ _ ▸ hci : _ ∧ _)
  obtain ⟨hlen0, hci2⟩ := hci0
  have hlen : len = 3 := Nat.eq_of_beq_eq_true hlen0
  subst hlen
  obtain ⟨x, hv, hs⟩ := xgI_some hs
  have hv2 : v0 = .int x := Option.some.inj hv
  subst hv2
  obtain ⟨rfl, rfl, rfl, rfl, rfl, rfl, rfl⟩ := xgo_some hs
  exact lv_ldcw hx hb hown (hts _ (xw_mem hci2)) hdg (kk H locs lsA hro hH hS hl hz)
theorem xs_ldc2_w (q : Nat) (X : xPre p R s m args meth c H locs cells slots D bs tc i d ls h n lsA kc ks) (hdg : decode (xMt i).2.1 pc = .ok (.ldc2_w q, len)) (hci : xchi i pc (.ldc2_w q, len, r1, r2, v0, ps) = true) (hs : xstp d (.ldc2_w q, len, r1, r2, v0, ps) pc ls st h n = some (pc1, ls1, st1, h1, n1, kc, ks))
    (kk : xKk p l e0 R s m args below meth c cells slots Q D bs tc i pc1 ls1 st1 h1 n1 kc ks) : W p l e0 R s m args below meth c H locs cells slots Q (F0 m pc lsA (st.map (xvm bs))) := by
  obtain ⟨⟨hx, hb, hml, hown, hts, hin, hcx, hbs⟩, hro, hH, hS, hl, ⟨hd1, hd2⟩, hc, hk2, hz⟩ := X
  have hci0 := (Bool.and_eq_true _ _ ▸ hci : _ ∧ _)
  obtain ⟨hlen0, hci2⟩ := hci0
  have hlen : len = 3 := Nat.eq_of_beq_eq_true hlen0
  subst hlen
  obtain ⟨x, hv, hs⟩ := xgL_some hs
  have hv2 : v0 = .long x := Option.some.inj hv
  subst hv2
  obtain ⟨rfl, rfl, rfl, rfl, rfl, rfl, rfl⟩ := xgo_some hs
  exact lv_ldc2 hx hb hown (hts _ (xw_mem hci2)) hdg (kk H locs lsA hro hH hS hl hz)
theorem xs_iload_n (q : Fin 4) (X : xPre p R s m args meth c H locs cells slots D bs tc i d ls h n lsA kc ks) (hdg : decode (xMt i).2.1 pc = .ok (.iload_n q, len)) (hci : xchi i pc (.iload_n q, len, r1, r2, v0, ps) = true) (hs : xstp d (.iload_n q, len, r1, r2, v0, ps) pc ls st h n = some (pc1, ls1, st1, h1, n1, kc, ks))
    (kk : xKk p l e0 R s m args below meth c cells slots Q D bs tc i pc1 ls1 st1 h1 n1 kc ks) : W p l e0 R s m args below meth c H locs cells slots Q (F0 m pc lsA (st.map (xvm bs))) := by
  obtain ⟨⟨hx, hb, hml, hown, hts, hin, hcx, hbs⟩, hro, hH, hS, hl, ⟨hd1, hd2⟩, hc, hk2, hz⟩ := X
  have hlen : len = 1 := Nat.eq_of_beq_eq_true hci
  subst hlen
  obtain ⟨x, hv, hs⟩ := xgI_some hs
  obtain ⟨rfl, rfl, rfl, rfl, rfl, rfl, rfl⟩ := xgo_some hs
  exact lv_iload_n hx hb hdg rfl (hl.2.2 _ (xlm_ld hv)) (kk H locs lsA hro hH hS hl hz)
theorem xs_iload (q : Nat) (X : xPre p R s m args meth c H locs cells slots D bs tc i d ls h n lsA kc ks) (hdg : decode (xMt i).2.1 pc = .ok (.iload q, len)) (hci : xchi i pc (.iload q, len, r1, r2, v0, ps) = true) (hs : xstp d (.iload q, len, r1, r2, v0, ps) pc ls st h n = some (pc1, ls1, st1, h1, n1, kc, ks))
    (kk : xKk p l e0 R s m args below meth c cells slots Q D bs tc i pc1 ls1 st1 h1 n1 kc ks) : W p l e0 R s m args below meth c H locs cells slots Q (F0 m pc lsA (st.map (xvm bs))) := by
  obtain ⟨⟨hx, hb, hml, hown, hts, hin, hcx, hbs⟩, hro, hH, hS, hl, ⟨hd1, hd2⟩, hc, hk2, hz⟩ := X
  have hlen : len = 2 := Nat.eq_of_beq_eq_true hci
  subst hlen
  obtain ⟨x, hv, hs⟩ := xgI_some hs
  obtain ⟨rfl, rfl, rfl, rfl, rfl, rfl, rfl⟩ := xgo_some hs
  exact lv_iload hx hb hdg (hl.2.2 _ (xlm_ld hv)) (kk H locs lsA hro hH hS hl hz)
theorem xs_lload_n (q : Fin 4) (X : xPre p R s m args meth c H locs cells slots D bs tc i d ls h n lsA kc ks) (hdg : decode (xMt i).2.1 pc = .ok (.lload_n q, len)) (hci : xchi i pc (.lload_n q, len, r1, r2, v0, ps) = true) (hs : xstp d (.lload_n q, len, r1, r2, v0, ps) pc ls st h n = some (pc1, ls1, st1, h1, n1, kc, ks))
    (kk : xKk p l e0 R s m args below meth c cells slots Q D bs tc i pc1 ls1 st1 h1 n1 kc ks) : W p l e0 R s m args below meth c H locs cells slots Q (F0 m pc lsA (st.map (xvm bs))) := by
  obtain ⟨⟨hx, hb, hml, hown, hts, hin, hcx, hbs⟩, hro, hH, hS, hl, ⟨hd1, hd2⟩, hc, hk2, hz⟩ := X
  have hlen : len = 1 := Nat.eq_of_beq_eq_true hci
  subst hlen
  obtain ⟨x, hv, hs⟩ := xgL_some hs
  obtain ⟨rfl, rfl, rfl, rfl, rfl, rfl, rfl⟩ := xgo_some hs
  exact lv_lload_n hx hb hdg rfl (hl.2.2 _ (xlm_ld hv)) (kk H locs lsA hro hH hS hl hz)
theorem xs_lload (q : Nat) (X : xPre p R s m args meth c H locs cells slots D bs tc i d ls h n lsA kc ks) (hdg : decode (xMt i).2.1 pc = .ok (.lload q, len)) (hci : xchi i pc (.lload q, len, r1, r2, v0, ps) = true) (hs : xstp d (.lload q, len, r1, r2, v0, ps) pc ls st h n = some (pc1, ls1, st1, h1, n1, kc, ks))
    (kk : xKk p l e0 R s m args below meth c cells slots Q D bs tc i pc1 ls1 st1 h1 n1 kc ks) : W p l e0 R s m args below meth c H locs cells slots Q (F0 m pc lsA (st.map (xvm bs))) := by
  obtain ⟨⟨hx, hb, hml, hown, hts, hin, hcx, hbs⟩, hro, hH, hS, hl, ⟨hd1, hd2⟩, hc, hk2, hz⟩ := X
  have hlen : len = 2 := Nat.eq_of_beq_eq_true hci
  subst hlen
  obtain ⟨x, hv, hs⟩ := xgL_some hs
  obtain ⟨rfl, rfl, rfl, rfl, rfl, rfl, rfl⟩ := xgo_some hs
  exact lv_lload hx hb hdg (hl.2.2 _ (xlm_ld hv)) (kk H locs lsA hro hH hS hl hz)
theorem xs_aload_n (q : Fin 4) (X : xPre p R s m args meth c H locs cells slots D bs tc i d ls h n lsA kc ks) (hdg : decode (xMt i).2.1 pc = .ok (.aload_n q, len)) (hci : xchi i pc (.aload_n q, len, r1, r2, v0, ps) = true) (hs : xstp d (.aload_n q, len, r1, r2, v0, ps) pc ls st h n = some (pc1, ls1, st1, h1, n1, kc, ks))
    (kk : xKk p l e0 R s m args below meth c cells slots Q D bs tc i pc1 ls1 st1 h1 n1 kc ks) : W p l e0 R s m args below meth c H locs cells slots Q (F0 m pc lsA (st.map (xvm bs))) := by
  obtain ⟨⟨hx, hb, hml, hown, hts, hin, hcx, hbs⟩, hro, hH, hS, hl, ⟨hd1, hd2⟩, hc, hk2, hz⟩ := X
  have hlen : len = 1 := Nat.eq_of_beq_eq_true hci
  subst hlen
  obtain ⟨x, hv, hs⟩ := xgR_some hs
  obtain ⟨rfl, rfl, rfl, rfl, rfl, rfl, rfl⟩ := xgo_some hs
  exact lv_aload_n hx hb hdg rfl (hl.2.2 _ (xlm_ld hv)) (kk H locs lsA hro hH hS hl hz)
theorem xs_aload (q : Nat) (X : xPre p R s m args meth c H locs cells slots D bs tc i d ls h n lsA kc ks) (hdg : decode (xMt i).2.1 pc = .ok (.aload q, len)) (hci : xchi i pc (.aload q, len, r1, r2, v0, ps) = true) (hs : xstp d (.aload q, len, r1, r2, v0, ps) pc ls st h n = some (pc1, ls1, st1, h1, n1, kc, ks))
    (kk : xKk p l e0 R s m args below meth c cells slots Q D bs tc i pc1 ls1 st1 h1 n1 kc ks) : W p l e0 R s m args below meth c H locs cells slots Q (F0 m pc lsA (st.map (xvm bs))) := by
  obtain ⟨⟨hx, hb, hml, hown, hts, hin, hcx, hbs⟩, hro, hH, hS, hl, ⟨hd1, hd2⟩, hc, hk2, hz⟩ := X
  have hlen : len = 2 := Nat.eq_of_beq_eq_true hci
  subst hlen
  obtain ⟨x, hv, hs⟩ := xgR_some hs
  obtain ⟨rfl, rfl, rfl, rfl, rfl, rfl, rfl⟩ := xgo_some hs
  exact lv_aload hx hb hdg (hl.2.2 _ (xlm_ld hv)) (kk H locs lsA hro hH hS hl hz)
theorem xs_istore_n (q : Fin 4) (X : xPre p R s m args meth c H locs cells slots D bs tc i d ls h n lsA kc ks) (hdg : decode (xMt i).2.1 pc = .ok (.istore_n q, len)) (hci : xchi i pc (.istore_n q, len, r1, r2, v0, ps) = true) (hs : xstp d (.istore_n q, len, r1, r2, v0, ps) pc ls st h n = some (pc1, ls1, st1, h1, n1, kc, ks))
    (kk : xKk p l e0 R s m args below meth c cells slots Q D bs tc i pc1 ls1 st1 h1 n1 kc ks) : W p l e0 R s m args below meth c H locs cells slots Q (F0 m pc lsA (st.map (xvm bs))) := by
  obtain ⟨⟨hx, hb, hml, hown, hts, hin, hcx, hbs⟩, hro, hH, hS, hl, ⟨hd1, hd2⟩, hc, hk2, hz⟩ := X
  have hci0 := (Bool.and_eq_true _ _ ▸ hci : _ ∧ _)
  obtain ⟨hlen0, hci2⟩ := hci0
  have hlen : len = 1 := Nat.eq_of_beq_eq_true hlen0
  subst hlen
  obtain ⟨x, r, rfl, hs⟩ := xpI_some hs
  obtain ⟨rfl, rfl, rfl, rfl, rfl, rfl, rfl⟩ := xgo_some hs
  exact lv_istore_n (lv' := xlm bs (xst1 ls q (.int x))) hx hb hdg rfl hl (Nat.le_of_ble_eq_true hci2) (xlm_st1 (v := .int x)) (fun lsB hB => kk H locs lsB hro hH hS hB hz)
theorem xs_istore (q : Nat) (X : xPre p R s m args meth c H locs cells slots D bs tc i d ls h n lsA kc ks) (hdg : decode (xMt i).2.1 pc = .ok (.istore q, len)) (hci : xchi i pc (.istore q, len, r1, r2, v0, ps) = true) (hs : xstp d (.istore q, len, r1, r2, v0, ps) pc ls st h n = some (pc1, ls1, st1, h1, n1, kc, ks))
    (kk : xKk p l e0 R s m args below meth c cells slots Q D bs tc i pc1 ls1 st1 h1 n1 kc ks) : W p l e0 R s m args below meth c H locs cells slots Q (F0 m pc lsA (st.map (xvm bs))) := by
  obtain ⟨⟨hx, hb, hml, hown, hts, hin, hcx, hbs⟩, hro, hH, hS, hl, ⟨hd1, hd2⟩, hc, hk2, hz⟩ := X
  have hci0 := (Bool.and_eq_true _ _ ▸ hci : _ ∧ _)
  obtain ⟨hlen0, hci2⟩ := hci0
  have hlen : len = 2 := Nat.eq_of_beq_eq_true hlen0
  subst hlen
  obtain ⟨x, r, rfl, hs⟩ := xpI_some hs
  obtain ⟨rfl, rfl, rfl, rfl, rfl, rfl, rfl⟩ := xgo_some hs
  exact lv_istore (lv' := xlm bs (xst1 ls q (.int x))) hx hb hdg hl (Nat.le_of_ble_eq_true hci2) (xlm_st1 (v := .int x)) (fun lsB hB => kk H locs lsB hro hH hS hB hz)
theorem xs_lstore_n (q : Fin 4) (X : xPre p R s m args meth c H locs cells slots D bs tc i d ls h n lsA kc ks) (hdg : decode (xMt i).2.1 pc = .ok (.lstore_n q, len)) (hci : xchi i pc (.lstore_n q, len, r1, r2, v0, ps) = true) (hs : xstp d (.lstore_n q, len, r1, r2, v0, ps) pc ls st h n = some (pc1, ls1, st1, h1, n1, kc, ks))
    (kk : xKk p l e0 R s m args below meth c cells slots Q D bs tc i pc1 ls1 st1 h1 n1 kc ks) : W p l e0 R s m args below meth c H locs cells slots Q (F0 m pc lsA (st.map (xvm bs))) := by
  obtain ⟨⟨hx, hb, hml, hown, hts, hin, hcx, hbs⟩, hro, hH, hS, hl, ⟨hd1, hd2⟩, hc, hk2, hz⟩ := X
  have hci0 := (Bool.and_eq_true _ _ ▸ hci : _ ∧ _)
  obtain ⟨hlen0, hci2⟩ := hci0
  have hlen : len = 1 := Nat.eq_of_beq_eq_true hlen0
  subst hlen
  obtain ⟨x, r, rfl, hs⟩ := xpL_some hs
  obtain ⟨rfl, rfl, rfl, rfl, rfl, rfl, rfl⟩ := xgo_some hs
  exact lv_lstore_n (lv' := xlm bs (xst2 ls q (.long x))) hx hb hdg rfl hl (Nat.le_of_ble_eq_true hci2) (xlm_st2 (v := .long x)) (fun lsB hB => kk H locs lsB hro hH hS hB hz)
theorem xs_lstore (q : Nat) (X : xPre p R s m args meth c H locs cells slots D bs tc i d ls h n lsA kc ks) (hdg : decode (xMt i).2.1 pc = .ok (.lstore q, len)) (hci : xchi i pc (.lstore q, len, r1, r2, v0, ps) = true) (hs : xstp d (.lstore q, len, r1, r2, v0, ps) pc ls st h n = some (pc1, ls1, st1, h1, n1, kc, ks))
    (kk : xKk p l e0 R s m args below meth c cells slots Q D bs tc i pc1 ls1 st1 h1 n1 kc ks) : W p l e0 R s m args below meth c H locs cells slots Q (F0 m pc lsA (st.map (xvm bs))) := by
  obtain ⟨⟨hx, hb, hml, hown, hts, hin, hcx, hbs⟩, hro, hH, hS, hl, ⟨hd1, hd2⟩, hc, hk2, hz⟩ := X
  have hci0 := (Bool.and_eq_true _ _ ▸ hci : _ ∧ _)
  obtain ⟨hlen0, hci2⟩ := hci0
  have hlen : len = 2 := Nat.eq_of_beq_eq_true hlen0
  subst hlen
  obtain ⟨x, r, rfl, hs⟩ := xpL_some hs
  obtain ⟨rfl, rfl, rfl, rfl, rfl, rfl, rfl⟩ := xgo_some hs
  exact lv_lstore (lv' := xlm bs (xst2 ls q (.long x))) hx hb hdg hl (Nat.le_of_ble_eq_true hci2) (xlm_st2 (v := .long x)) (fun lsB hB => kk H locs lsB hro hH hS hB hz)
theorem xs_astore_n (q : Fin 4) (X : xPre p R s m args meth c H locs cells slots D bs tc i d ls h n lsA kc ks) (hdg : decode (xMt i).2.1 pc = .ok (.astore_n q, len)) (hci : xchi i pc (.astore_n q, len, r1, r2, v0, ps) = true) (hs : xstp d (.astore_n q, len, r1, r2, v0, ps) pc ls st h n = some (pc1, ls1, st1, h1, n1, kc, ks))
    (kk : xKk p l e0 R s m args below meth c cells slots Q D bs tc i pc1 ls1 st1 h1 n1 kc ks) : W p l e0 R s m args below meth c H locs cells slots Q (F0 m pc lsA (st.map (xvm bs))) := by
  obtain ⟨⟨hx, hb, hml, hown, hts, hin, hcx, hbs⟩, hro, hH, hS, hl, ⟨hd1, hd2⟩, hc, hk2, hz⟩ := X
  have hci0 := (Bool.and_eq_true _ _ ▸ hci : _ ∧ _)
  obtain ⟨hlen0, hci2⟩ := hci0
  have hlen : len = 1 := Nat.eq_of_beq_eq_true hlen0
  subst hlen
  obtain ⟨x, r, rfl, hs⟩ := xpR_some hs
  obtain ⟨rfl, rfl, rfl, rfl, rfl, rfl, rfl⟩ := xgo_some hs
  exact lv_astore_n (lv' := xlm bs (xst1 ls q (.ref x))) hx hb hdg rfl hl (Nat.le_of_ble_eq_true hci2) (xlm_st1 (v := .ref x)) (fun lsB hB => kk H locs lsB hro hH hS hB hz)
theorem xs_astore (q : Nat) (X : xPre p R s m args meth c H locs cells slots D bs tc i d ls h n lsA kc ks) (hdg : decode (xMt i).2.1 pc = .ok (.astore q, len)) (hci : xchi i pc (.astore q, len, r1, r2, v0, ps) = true) (hs : xstp d (.astore q, len, r1, r2, v0, ps) pc ls st h n = some (pc1, ls1, st1, h1, n1, kc, ks))
    (kk : xKk p l e0 R s m args below meth c cells slots Q D bs tc i pc1 ls1 st1 h1 n1 kc ks) : W p l e0 R s m args below meth c H locs cells slots Q (F0 m pc lsA (st.map (xvm bs))) := by
  obtain ⟨⟨hx, hb, hml, hown, hts, hin, hcx, hbs⟩, hro, hH, hS, hl, ⟨hd1, hd2⟩, hc, hk2, hz⟩ := X
  have hci0 := (Bool.and_eq_true _ _ ▸ hci : _ ∧ _)
  obtain ⟨hlen0, hci2⟩ := hci0
  have hlen : len = 2 := Nat.eq_of_beq_eq_true hlen0
  subst hlen
  obtain ⟨x, r, rfl, hs⟩ := xpR_some hs
  obtain ⟨rfl, rfl, rfl, rfl, rfl, rfl, rfl⟩ := xgo_some hs
  exact lv_astore (lv' := xlm bs (xst1 ls q (.ref x))) hx hb hdg hl (Nat.le_of_ble_eq_true hci2) (xlm_st1 (v := .ref x)) (fun lsB hB => kk H locs lsB hro hH hS hB hz)
theorem xs_iinc (q : Nat) (w : Int) (X : xPre p R s m args meth c H locs cells slots D bs tc i d ls h n lsA kc ks) (hdg : decode (xMt i).2.1 pc = .ok (.iinc q w, len)) (hci : xchi i pc (.iinc q w, len, r1, r2, v0, ps) = true) (hs : xstp d (.iinc q w, len, r1, r2, v0, ps) pc ls st h n = some (pc1, ls1, st1, h1, n1, kc, ks))
    (kk : xKk p l e0 R s m args below meth c cells slots Q D bs tc i pc1 ls1 st1 h1 n1 kc ks) : W p l e0 R s m args below meth c H locs cells slots Q (F0 m pc lsA (st.map (xvm bs))) := by
  obtain ⟨⟨hx, hb, hml, hown, hts, hin, hcx, hbs⟩, hro, hH, hS, hl, ⟨hd1, hd2⟩, hc, hk2, hz⟩ := X
  have hci0 := (Bool.and_eq_true _ _ ▸ hci : _ ∧ _)
  obtain ⟨hlen0, hci2⟩ := hci0
  have hlen : len = 3 := Nat.eq_of_beq_eq_true hlen0
  subst hlen
  have hci3 := (Bool.and_eq_true _ _ ▸ hci2 : _ ∧ _)
  obtain ⟨hq, hw⟩ := hci3
  obtain ⟨x, hv, hs⟩ := xgI_some hs
  obtain ⟨y, hy, hs⟩ := xgI_some hs
  have hv2 : v0 = .int y := Option.some.inj hy
  subst hv2
  obtain ⟨rfl, rfl, rfl, rfl, rfl, rfl, rfl⟩ := xgo_some hs
  have hx2 : Int32.ofInt w = y := of_decide_eq_true hw
  obtain ⟨j, hj⟩ := List.getElem?_of_mem (xlm_ld (bs := bs) hv)
  exact lv_iinc (v := x + y) (lv' := xlm bs (xst1 ls q (.int (x + y)))) hx hb hdg hl hj (by rw [hx2]) (Nat.le_of_ble_eq_true hq) (xlm_st1 (v := .int (x + y))) (fun lsB hB => kk H locs lsB hro hH hS hB hz)
theorem xs_iadd (X : xPre p R s m args meth c H locs cells slots D bs tc i d ls h n lsA kc ks) (hdg : decode (xMt i).2.1 pc = .ok (.iadd, len)) (hci : xchi i pc (.iadd, len, r1, r2, v0, ps) = true) (hs : xstp d (.iadd, len, r1, r2, v0, ps) pc ls st h n = some (pc1, ls1, st1, h1, n1, kc, ks))
    (kk : xKk p l e0 R s m args below meth c cells slots Q D bs tc i pc1 ls1 st1 h1 n1 kc ks) : W p l e0 R s m args below meth c H locs cells slots Q (F0 m pc lsA (st.map (xvm bs))) := by
  obtain ⟨⟨hx, hb, hml, hown, hts, hin, hcx, hbs⟩, hro, hH, hS, hl, ⟨hd1, hd2⟩, hc, hk2, hz⟩ := X
  have hlen : len = 1 := Nat.eq_of_beq_eq_true hci
  subst hlen
  obtain ⟨y, r, rfl, hs⟩ := xpI_some hs
  obtain ⟨x, r, rfl, hs⟩ := xpI_some hs
  obtain ⟨rfl, rfl, rfl, rfl, rfl, rfl, rfl⟩ := xgo_some hs
  exact lv_iadd hx hb hdg (kk H locs lsA hro hH hS hl hz)
theorem xs_isub (X : xPre p R s m args meth c H locs cells slots D bs tc i d ls h n lsA kc ks) (hdg : decode (xMt i).2.1 pc = .ok (.isub, len)) (hci : xchi i pc (.isub, len, r1, r2, v0, ps) = true) (hs : xstp d (.isub, len, r1, r2, v0, ps) pc ls st h n = some (pc1, ls1, st1, h1, n1, kc, ks))
    (kk : xKk p l e0 R s m args below meth c cells slots Q D bs tc i pc1 ls1 st1 h1 n1 kc ks) : W p l e0 R s m args below meth c H locs cells slots Q (F0 m pc lsA (st.map (xvm bs))) := by
  obtain ⟨⟨hx, hb, hml, hown, hts, hin, hcx, hbs⟩, hro, hH, hS, hl, ⟨hd1, hd2⟩, hc, hk2, hz⟩ := X
  have hlen : len = 1 := Nat.eq_of_beq_eq_true hci
  subst hlen
  obtain ⟨y, r, rfl, hs⟩ := xpI_some hs
  obtain ⟨x, r, rfl, hs⟩ := xpI_some hs
  obtain ⟨rfl, rfl, rfl, rfl, rfl, rfl, rfl⟩ := xgo_some hs
  exact lv_isub hx hb hdg (kk H locs lsA hro hH hS hl hz)
theorem xs_imul (X : xPre p R s m args meth c H locs cells slots D bs tc i d ls h n lsA kc ks) (hdg : decode (xMt i).2.1 pc = .ok (.imul, len)) (hci : xchi i pc (.imul, len, r1, r2, v0, ps) = true) (hs : xstp d (.imul, len, r1, r2, v0, ps) pc ls st h n = some (pc1, ls1, st1, h1, n1, kc, ks))
    (kk : xKk p l e0 R s m args below meth c cells slots Q D bs tc i pc1 ls1 st1 h1 n1 kc ks) : W p l e0 R s m args below meth c H locs cells slots Q (F0 m pc lsA (st.map (xvm bs))) := by
  obtain ⟨⟨hx, hb, hml, hown, hts, hin, hcx, hbs⟩, hro, hH, hS, hl, ⟨hd1, hd2⟩, hc, hk2, hz⟩ := X
  have hlen : len = 1 := Nat.eq_of_beq_eq_true hci
  subst hlen
  obtain ⟨y, r, rfl, hs⟩ := xpI_some hs
  obtain ⟨x, r, rfl, hs⟩ := xpI_some hs
  obtain ⟨rfl, rfl, rfl, rfl, rfl, rfl, rfl⟩ := xgo_some hs
  exact lv_imul hx hb hdg (kk H locs lsA hro hH hS hl hz)
theorem xs_iand (X : xPre p R s m args meth c H locs cells slots D bs tc i d ls h n lsA kc ks) (hdg : decode (xMt i).2.1 pc = .ok (.iand, len)) (hci : xchi i pc (.iand, len, r1, r2, v0, ps) = true) (hs : xstp d (.iand, len, r1, r2, v0, ps) pc ls st h n = some (pc1, ls1, st1, h1, n1, kc, ks))
    (kk : xKk p l e0 R s m args below meth c cells slots Q D bs tc i pc1 ls1 st1 h1 n1 kc ks) : W p l e0 R s m args below meth c H locs cells slots Q (F0 m pc lsA (st.map (xvm bs))) := by
  obtain ⟨⟨hx, hb, hml, hown, hts, hin, hcx, hbs⟩, hro, hH, hS, hl, ⟨hd1, hd2⟩, hc, hk2, hz⟩ := X
  have hlen : len = 1 := Nat.eq_of_beq_eq_true hci
  subst hlen
  obtain ⟨y, r, rfl, hs⟩ := xpI_some hs
  obtain ⟨x, r, rfl, hs⟩ := xpI_some hs
  obtain ⟨rfl, rfl, rfl, rfl, rfl, rfl, rfl⟩ := xgo_some hs
  exact lv_iand hx hb hdg (kk H locs lsA hro hH hS hl hz)
theorem xs_ior (X : xPre p R s m args meth c H locs cells slots D bs tc i d ls h n lsA kc ks) (hdg : decode (xMt i).2.1 pc = .ok (.ior, len)) (hci : xchi i pc (.ior, len, r1, r2, v0, ps) = true) (hs : xstp d (.ior, len, r1, r2, v0, ps) pc ls st h n = some (pc1, ls1, st1, h1, n1, kc, ks))
    (kk : xKk p l e0 R s m args below meth c cells slots Q D bs tc i pc1 ls1 st1 h1 n1 kc ks) : W p l e0 R s m args below meth c H locs cells slots Q (F0 m pc lsA (st.map (xvm bs))) := by
  obtain ⟨⟨hx, hb, hml, hown, hts, hin, hcx, hbs⟩, hro, hH, hS, hl, ⟨hd1, hd2⟩, hc, hk2, hz⟩ := X
  have hlen : len = 1 := Nat.eq_of_beq_eq_true hci
  subst hlen
  obtain ⟨y, r, rfl, hs⟩ := xpI_some hs
  obtain ⟨x, r, rfl, hs⟩ := xpI_some hs
  obtain ⟨rfl, rfl, rfl, rfl, rfl, rfl, rfl⟩ := xgo_some hs
  exact lv_ior hx hb hdg (kk H locs lsA hro hH hS hl hz)
theorem xs_ishl (X : xPre p R s m args meth c H locs cells slots D bs tc i d ls h n lsA kc ks) (hdg : decode (xMt i).2.1 pc = .ok (.ishl, len)) (hci : xchi i pc (.ishl, len, r1, r2, v0, ps) = true) (hs : xstp d (.ishl, len, r1, r2, v0, ps) pc ls st h n = some (pc1, ls1, st1, h1, n1, kc, ks))
    (kk : xKk p l e0 R s m args below meth c cells slots Q D bs tc i pc1 ls1 st1 h1 n1 kc ks) : W p l e0 R s m args below meth c H locs cells slots Q (F0 m pc lsA (st.map (xvm bs))) := by
  obtain ⟨⟨hx, hb, hml, hown, hts, hin, hcx, hbs⟩, hro, hH, hS, hl, ⟨hd1, hd2⟩, hc, hk2, hz⟩ := X
  have hlen : len = 1 := Nat.eq_of_beq_eq_true hci
  subst hlen
  obtain ⟨y, r, rfl, hs⟩ := xpI_some hs
  obtain ⟨x, r, rfl, hs⟩ := xpI_some hs
  obtain ⟨rfl, rfl, rfl, rfl, rfl, rfl, rfl⟩ := xgo_some hs
  exact lv_ishl hx hb hdg (kk H locs lsA hro hH hS hl hz)
theorem xs_iushr (X : xPre p R s m args meth c H locs cells slots D bs tc i d ls h n lsA kc ks) (hdg : decode (xMt i).2.1 pc = .ok (.iushr, len)) (hci : xchi i pc (.iushr, len, r1, r2, v0, ps) = true) (hs : xstp d (.iushr, len, r1, r2, v0, ps) pc ls st h n = some (pc1, ls1, st1, h1, n1, kc, ks))
    (kk : xKk p l e0 R s m args below meth c cells slots Q D bs tc i pc1 ls1 st1 h1 n1 kc ks) : W p l e0 R s m args below meth c H locs cells slots Q (F0 m pc lsA (st.map (xvm bs))) := by
  obtain ⟨⟨hx, hb, hml, hown, hts, hin, hcx, hbs⟩, hro, hH, hS, hl, ⟨hd1, hd2⟩, hc, hk2, hz⟩ := X
  have hlen : len = 1 := Nat.eq_of_beq_eq_true hci
  subst hlen
  obtain ⟨y, r, rfl, hs⟩ := xpI_some hs
  obtain ⟨x, r, rfl, hs⟩ := xpI_some hs
  obtain ⟨rfl, rfl, rfl, rfl, rfl, rfl, rfl⟩ := xgo_some hs
  exact lv_iushr hx hb hdg rfl (kk H locs lsA hro hH hS hl hz)
theorem xs_idiv (X : xPre p R s m args meth c H locs cells slots D bs tc i d ls h n lsA kc ks) (hdg : decode (xMt i).2.1 pc = .ok (.idiv, len)) (hci : xchi i pc (.idiv, len, r1, r2, v0, ps) = true) (hs : xstp d (.idiv, len, r1, r2, v0, ps) pc ls st h n = some (pc1, ls1, st1, h1, n1, kc, ks))
    (kk : xKk p l e0 R s m args below meth c cells slots Q D bs tc i pc1 ls1 st1 h1 n1 kc ks) : W p l e0 R s m args below meth c H locs cells slots Q (F0 m pc lsA (st.map (xvm bs))) := by
  obtain ⟨⟨hx, hb, hml, hown, hts, hin, hcx, hbs⟩, hro, hH, hS, hl, ⟨hd1, hd2⟩, hc, hk2, hz⟩ := X
  have hlen : len = 1 := Nat.eq_of_beq_eq_true hci
  subst hlen
  obtain ⟨y, r, rfl, hs⟩ := xpI_some hs
  obtain ⟨x, r, rfl, hs⟩ := xpI_some hs
  obtain ⟨hne, hs⟩ := xgp_some hs
  obtain ⟨rfl, rfl, rfl, rfl, rfl, rfl, rfl⟩ := xgo_some hs
  exact lv_idiv hx hb hdg hne (kk H locs lsA hro hH hS hl hz)
theorem xs_irem (X : xPre p R s m args meth c H locs cells slots D bs tc i d ls h n lsA kc ks) (hdg : decode (xMt i).2.1 pc = .ok (.irem, len)) (hci : xchi i pc (.irem, len, r1, r2, v0, ps) = true) (hs : xstp d (.irem, len, r1, r2, v0, ps) pc ls st h n = some (pc1, ls1, st1, h1, n1, kc, ks))
    (kk : xKk p l e0 R s m args below meth c cells slots Q D bs tc i pc1 ls1 st1 h1 n1 kc ks) : W p l e0 R s m args below meth c H locs cells slots Q (F0 m pc lsA (st.map (xvm bs))) := by
  obtain ⟨⟨hx, hb, hml, hown, hts, hin, hcx, hbs⟩, hro, hH, hS, hl, ⟨hd1, hd2⟩, hc, hk2, hz⟩ := X
  have hlen : len = 1 := Nat.eq_of_beq_eq_true hci
  subst hlen
  obtain ⟨y, r, rfl, hs⟩ := xpI_some hs
  obtain ⟨x, r, rfl, hs⟩ := xpI_some hs
  obtain ⟨hne, hs⟩ := xgp_some hs
  obtain ⟨rfl, rfl, rfl, rfl, rfl, rfl, rfl⟩ := xgo_some hs
  exact lv_irem hx hb hdg hne (kk H locs lsA hro hH hS hl hz)
theorem xs_lsub (X : xPre p R s m args meth c H locs cells slots D bs tc i d ls h n lsA kc ks) (hdg : decode (xMt i).2.1 pc = .ok (.lsub, len)) (hci : xchi i pc (.lsub, len, r1, r2, v0, ps) = true) (hs : xstp d (.lsub, len, r1, r2, v0, ps) pc ls st h n = some (pc1, ls1, st1, h1, n1, kc, ks))
    (kk : xKk p l e0 R s m args below meth c cells slots Q D bs tc i pc1 ls1 st1 h1 n1 kc ks) : W p l e0 R s m args below meth c H locs cells slots Q (F0 m pc lsA (st.map (xvm bs))) := by
  obtain ⟨⟨hx, hb, hml, hown, hts, hin, hcx, hbs⟩, hro, hH, hS, hl, ⟨hd1, hd2⟩, hc, hk2, hz⟩ := X
  have hlen : len = 1 := Nat.eq_of_beq_eq_true hci
  subst hlen
  obtain ⟨y, r, rfl, hs⟩ := xpL_some hs
  obtain ⟨x, r, rfl, hs⟩ := xpL_some hs
  obtain ⟨rfl, rfl, rfl, rfl, rfl, rfl, rfl⟩ := xgo_some hs
  exact lv_lsub hx hb hdg (kk H locs lsA hro hH hS hl hz)
theorem xs_land (X : xPre p R s m args meth c H locs cells slots D bs tc i d ls h n lsA kc ks) (hdg : decode (xMt i).2.1 pc = .ok (.land, len)) (hci : xchi i pc (.land, len, r1, r2, v0, ps) = true) (hs : xstp d (.land, len, r1, r2, v0, ps) pc ls st h n = some (pc1, ls1, st1, h1, n1, kc, ks))
    (kk : xKk p l e0 R s m args below meth c cells slots Q D bs tc i pc1 ls1 st1 h1 n1 kc ks) : W p l e0 R s m args below meth c H locs cells slots Q (F0 m pc lsA (st.map (xvm bs))) := by
  obtain ⟨⟨hx, hb, hml, hown, hts, hin, hcx, hbs⟩, hro, hH, hS, hl, ⟨hd1, hd2⟩, hc, hk2, hz⟩ := X
  have hlen : len = 1 := Nat.eq_of_beq_eq_true hci
  subst hlen
  obtain ⟨y, r, rfl, hs⟩ := xpL_some hs
  obtain ⟨x, r, rfl, hs⟩ := xpL_some hs
  obtain ⟨rfl, rfl, rfl, rfl, rfl, rfl, rfl⟩ := xgo_some hs
  exact lv_land hx hb hdg (kk H locs lsA hro hH hS hl hz)
theorem xs_lor (X : xPre p R s m args meth c H locs cells slots D bs tc i d ls h n lsA kc ks) (hdg : decode (xMt i).2.1 pc = .ok (.lor, len)) (hci : xchi i pc (.lor, len, r1, r2, v0, ps) = true) (hs : xstp d (.lor, len, r1, r2, v0, ps) pc ls st h n = some (pc1, ls1, st1, h1, n1, kc, ks))
    (kk : xKk p l e0 R s m args below meth c cells slots Q D bs tc i pc1 ls1 st1 h1 n1 kc ks) : W p l e0 R s m args below meth c H locs cells slots Q (F0 m pc lsA (st.map (xvm bs))) := by
  obtain ⟨⟨hx, hb, hml, hown, hts, hin, hcx, hbs⟩, hro, hH, hS, hl, ⟨hd1, hd2⟩, hc, hk2, hz⟩ := X
  have hlen : len = 1 := Nat.eq_of_beq_eq_true hci
  subst hlen
  obtain ⟨y, r, rfl, hs⟩ := xpL_some hs
  obtain ⟨x, r, rfl, hs⟩ := xpL_some hs
  obtain ⟨rfl, rfl, rfl, rfl, rfl, rfl, rfl⟩ := xgo_some hs
  exact lv_lor hx hb hdg (kk H locs lsA hro hH hS hl hz)
theorem xs_lcmp (X : xPre p R s m args meth c H locs cells slots D bs tc i d ls h n lsA kc ks) (hdg : decode (xMt i).2.1 pc = .ok (.lcmp, len)) (hci : xchi i pc (.lcmp, len, r1, r2, v0, ps) = true) (hs : xstp d (.lcmp, len, r1, r2, v0, ps) pc ls st h n = some (pc1, ls1, st1, h1, n1, kc, ks))
    (kk : xKk p l e0 R s m args below meth c cells slots Q D bs tc i pc1 ls1 st1 h1 n1 kc ks) : W p l e0 R s m args below meth c H locs cells slots Q (F0 m pc lsA (st.map (xvm bs))) := by
  obtain ⟨⟨hx, hb, hml, hown, hts, hin, hcx, hbs⟩, hro, hH, hS, hl, ⟨hd1, hd2⟩, hc, hk2, hz⟩ := X
  have hlen : len = 1 := Nat.eq_of_beq_eq_true hci
  subst hlen
  obtain ⟨y, r, rfl, hs⟩ := xpL_some hs
  obtain ⟨x, r, rfl, hs⟩ := xpL_some hs
  obtain ⟨rfl, rfl, rfl, rfl, rfl, rfl, rfl⟩ := xgo_some hs
  exact W.lcmp hx hb hdg (kk H locs lsA hro hH hS hl hz)
theorem xs_lshl (X : xPre p R s m args meth c H locs cells slots D bs tc i d ls h n lsA kc ks) (hdg : decode (xMt i).2.1 pc = .ok (.lshl, len)) (hci : xchi i pc (.lshl, len, r1, r2, v0, ps) = true) (hs : xstp d (.lshl, len, r1, r2, v0, ps) pc ls st h n = some (pc1, ls1, st1, h1, n1, kc, ks))
    (kk : xKk p l e0 R s m args below meth c cells slots Q D bs tc i pc1 ls1 st1 h1 n1 kc ks) : W p l e0 R s m args below meth c H locs cells slots Q (F0 m pc lsA (st.map (xvm bs))) := by
  obtain ⟨⟨hx, hb, hml, hown, hts, hin, hcx, hbs⟩, hro, hH, hS, hl, ⟨hd1, hd2⟩, hc, hk2, hz⟩ := X
  have hlen : len = 1 := Nat.eq_of_beq_eq_true hci
  subst hlen
  obtain ⟨y, r, rfl, hs⟩ := xpI_some hs
  obtain ⟨x, r, rfl, hs⟩ := xpL_some hs
  obtain ⟨rfl, rfl, rfl, rfl, rfl, rfl, rfl⟩ := xgo_some hs
  exact lv_lshl hx hb hdg rfl (kk H locs lsA hro hH hS hl hz)
theorem xs_lushr (X : xPre p R s m args meth c H locs cells slots D bs tc i d ls h n lsA kc ks) (hdg : decode (xMt i).2.1 pc = .ok (.lushr, len)) (hci : xchi i pc (.lushr, len, r1, r2, v0, ps) = true) (hs : xstp d (.lushr, len, r1, r2, v0, ps) pc ls st h n = some (pc1, ls1, st1, h1, n1, kc, ks))
    (kk : xKk p l e0 R s m args below meth c cells slots Q D bs tc i pc1 ls1 st1 h1 n1 kc ks) : W p l e0 R s m args below meth c H locs cells slots Q (F0 m pc lsA (st.map (xvm bs))) := by
  obtain ⟨⟨hx, hb, hml, hown, hts, hin, hcx, hbs⟩, hro, hH, hS, hl, ⟨hd1, hd2⟩, hc, hk2, hz⟩ := X
  have hlen : len = 1 := Nat.eq_of_beq_eq_true hci
  subst hlen
  obtain ⟨y, r, rfl, hs⟩ := xpI_some hs
  obtain ⟨x, r, rfl, hs⟩ := xpL_some hs
  obtain ⟨rfl, rfl, rfl, rfl, rfl, rfl, rfl⟩ := xgo_some hs
  exact lv_lushr hx hb hdg rfl (kk H locs lsA hro hH hS hl hz)
theorem xs_i2l (X : xPre p R s m args meth c H locs cells slots D bs tc i d ls h n lsA kc ks) (hdg : decode (xMt i).2.1 pc = .ok (.i2l, len)) (hci : xchi i pc (.i2l, len, r1, r2, v0, ps) = true) (hs : xstp d (.i2l, len, r1, r2, v0, ps) pc ls st h n = some (pc1, ls1, st1, h1, n1, kc, ks))
    (kk : xKk p l e0 R s m args below meth c cells slots Q D bs tc i pc1 ls1 st1 h1 n1 kc ks) : W p l e0 R s m args below meth c H locs cells slots Q (F0 m pc lsA (st.map (xvm bs))) := by
  obtain ⟨⟨hx, hb, hml, hown, hts, hin, hcx, hbs⟩, hro, hH, hS, hl, ⟨hd1, hd2⟩, hc, hk2, hz⟩ := X
  have hlen : len = 1 := Nat.eq_of_beq_eq_true hci
  subst hlen
  obtain ⟨x, r, rfl, hs⟩ := xpI_some hs
  obtain ⟨rfl, rfl, rfl, rfl, rfl, rfl, rfl⟩ := xgo_some hs
  exact lv_i2l hx hb hdg rfl (kk H locs lsA hro hH hS hl hz)
theorem xs_l2i (X : xPre p R s m args meth c H locs cells slots D bs tc i d ls h n lsA kc ks) (hdg : decode (xMt i).2.1 pc = .ok (.l2i, len)) (hci : xchi i pc (.l2i, len, r1, r2, v0, ps) = true) (hs : xstp d (.l2i, len, r1, r2, v0, ps) pc ls st h n = some (pc1, ls1, st1, h1, n1, kc, ks))
    (kk : xKk p l e0 R s m args below meth c cells slots Q D bs tc i pc1 ls1 st1 h1 n1 kc ks) : W p l e0 R s m args below meth c H locs cells slots Q (F0 m pc lsA (st.map (xvm bs))) := by
  obtain ⟨⟨hx, hb, hml, hown, hts, hin, hcx, hbs⟩, hro, hH, hS, hl, ⟨hd1, hd2⟩, hc, hk2, hz⟩ := X
  have hlen : len = 1 := Nat.eq_of_beq_eq_true hci
  subst hlen
  obtain ⟨x, r, rfl, hs⟩ := xpL_some hs
  obtain ⟨rfl, rfl, rfl, rfl, rfl, rfl, rfl⟩ := xgo_some hs
  exact lv_l2i hx hb hdg rfl (kk H locs lsA hro hH hS hl hz)
theorem xs_i2c (X : xPre p R s m args meth c H locs cells slots D bs tc i d ls h n lsA kc ks) (hdg : decode (xMt i).2.1 pc = .ok (.i2c, len)) (hci : xchi i pc (.i2c, len, r1, r2, v0, ps) = true) (hs : xstp d (.i2c, len, r1, r2, v0, ps) pc ls st h n = some (pc1, ls1, st1, h1, n1, kc, ks))
    (kk : xKk p l e0 R s m args below meth c cells slots Q D bs tc i pc1 ls1 st1 h1 n1 kc ks) : W p l e0 R s m args below meth c H locs cells slots Q (F0 m pc lsA (st.map (xvm bs))) := by
  obtain ⟨⟨hx, hb, hml, hown, hts, hin, hcx, hbs⟩, hro, hH, hS, hl, ⟨hd1, hd2⟩, hc, hk2, hz⟩ := X
  have hlen : len = 1 := Nat.eq_of_beq_eq_true hci
  subst hlen
  obtain ⟨x, r, rfl, hs⟩ := xpI_some hs
  obtain ⟨rfl, rfl, rfl, rfl, rfl, rfl, rfl⟩ := xgo_some hs
  exact lv_i2c hx hb hdg rfl (kk H locs lsA hro hH hS hl hz)
theorem xs_dup (X : xPre p R s m args meth c H locs cells slots D bs tc i d ls h n lsA kc ks) (hdg : decode (xMt i).2.1 pc = .ok (.dup, len)) (hci : xchi i pc (.dup, len, r1, r2, v0, ps) = true) (hs : xstp d (.dup, len, r1, r2, v0, ps) pc ls st h n = some (pc1, ls1, st1, h1, n1, kc, ks))
    (kk : xKk p l e0 R s m args below meth c cells slots Q D bs tc i pc1 ls1 st1 h1 n1 kc ks) : W p l e0 R s m args below meth c H locs cells slots Q (F0 m pc lsA (st.map (xvm bs))) := by
  obtain ⟨⟨hx, hb, hml, hown, hts, hin, hcx, hbs⟩, hro, hH, hS, hl, ⟨hd1, hd2⟩, hc, hk2, hz⟩ := X
  have hlen : len = 1 := Nat.eq_of_beq_eq_true hci
  subst hlen
  obtain ⟨v, r, rfl, hs⟩ := xpV_some hs
  obtain ⟨hc1, hs⟩ := xgd_some hs
  obtain ⟨rfl, rfl, rfl, rfl, rfl, rfl, rfl⟩ := xgo_some hs
  exact lv_dup hx hb hdg (by rw [xvm_cat]; exact eq_of_beq hc1) (kk H locs lsA hro hH hS hl hz)
theorem xs_pop (X : xPre p R s m args meth c H locs cells slots D bs tc i d ls h n lsA kc ks) (hdg : decode (xMt i).2.1 pc = .ok (.pop, len)) (hci : xchi i pc (.pop, len, r1, r2, v0, ps) = true) (hs : xstp d (.pop, len, r1, r2, v0, ps) pc ls st h n = some (pc1, ls1, st1, h1, n1, kc, ks))
    (kk : xKk p l e0 R s m args below meth c cells slots Q D bs tc i pc1 ls1 st1 h1 n1 kc ks) : W p l e0 R s m args below meth c H locs cells slots Q (F0 m pc lsA (st.map (xvm bs))) := by
  obtain ⟨⟨hx, hb, hml, hown, hts, hin, hcx, hbs⟩, hro, hH, hS, hl, ⟨hd1, hd2⟩, hc, hk2, hz⟩ := X
  have hlen : len = 1 := Nat.eq_of_beq_eq_true hci
  subst hlen
  obtain ⟨v, r, rfl, hs⟩ := xpV_some hs
  obtain ⟨hc1, hs⟩ := xgd_some hs
  obtain ⟨rfl, rfl, rfl, rfl, rfl, rfl, rfl⟩ := xgo_some hs
  exact lv_pop hx hb hdg (by rw [xvm_cat]; exact eq_of_beq hc1) (kk H locs lsA hro hH hS hl hz)
theorem xs_dup2 (X : xPre p R s m args meth c H locs cells slots D bs tc i d ls h n lsA kc ks) (hdg : decode (xMt i).2.1 pc = .ok (.dup2, len)) (hci : xchi i pc (.dup2, len, r1, r2, v0, ps) = true) (hs : xstp d (.dup2, len, r1, r2, v0, ps) pc ls st h n = some (pc1, ls1, st1, h1, n1, kc, ks))
    (kk : xKk p l e0 R s m args below meth c cells slots Q D bs tc i pc1 ls1 st1 h1 n1 kc ks) : W p l e0 R s m args below meth c H locs cells slots Q (F0 m pc lsA (st.map (xvm bs))) := by
  obtain ⟨⟨hx, hb, hml, hown, hts, hin, hcx, hbs⟩, hro, hH, hS, hl, ⟨hd1, hd2⟩, hc, hk2, hz⟩ := X
  have hlen : len = 1 := Nat.eq_of_beq_eq_true hci
  subst hlen
  obtain ⟨v, r, rfl, hs⟩ := xpV_some hs
  obtain ⟨w, r, rfl, hs⟩ := xpV_some hs
  obtain ⟨hc1, hs⟩ := xgd_some hs
  obtain ⟨hc2, hs⟩ := xgd_some hs
  obtain ⟨rfl, rfl, rfl, rfl, rfl, rfl, rfl⟩ := xgo_some hs
  exact lv_dup2_11 hx hb hdg (by rw [xvm_cat]; exact eq_of_beq hc1) (by rw [xvm_cat]; exact eq_of_beq hc2) (kk H locs lsA hro hH hS hl hz)
theorem xs_goto (q : Int) (X : xPre p R s m args meth c H locs cells slots D bs tc i d ls h n lsA kc ks) (hdg : decode (xMt i).2.1 pc = .ok (.goto q, len)) (hci : xchi i pc (.goto q, len, r1, r2, v0, ps) = true) (hs : xstp d (.goto q, len, r1, r2, v0, ps) pc ls st h n = some (pc1, ls1, st1, h1, n1, kc, ks))
    (kk : xKk p l e0 R s m args below meth c cells slots Q D bs tc i pc1 ls1 st1 h1 n1 kc ks) : W p l e0 R s m args below meth c H locs cells slots Q (F0 m pc lsA (st.map (xvm bs))) := by
  obtain ⟨⟨hx, hb, hml, hown, hts, hin, hcx, hbs⟩, hro, hH, hS, hl, ⟨hd1, hd2⟩, hc, hk2, hz⟩ := X
  have hci0 := (Bool.and_eq_true _ _ ▸ hci : _ ∧ _)
  obtain ⟨hlen0, hci2⟩ := hci0
  have hlen : len = 3 := Nat.eq_of_beq_eq_true hlen0
  subst hlen
  obtain ⟨rfl, rfl, rfl, rfl, rfl, rfl, rfl⟩ := xgo_some hs
  exact lv_goto hx hb hdg (of_decide_eq_true hci2) (kk H locs lsA hro hH hS hl hz)
theorem xs_icmp_eq (q : Int) (X : xPre p R s m args meth c H locs cells slots D bs tc i d ls h n lsA kc ks) (hdg : decode (xMt i).2.1 pc = .ok (.if_icmp .eq q, len)) (hci : xchi i pc (.if_icmp .eq q, len, r1, r2, v0, ps) = true) (hs : xstp d (.if_icmp .eq q, len, r1, r2, v0, ps) pc ls st h n = some (pc1, ls1, st1, h1, n1, kc, ks))
    (kk : xKk p l e0 R s m args below meth c cells slots Q D bs tc i pc1 ls1 st1 h1 n1 kc ks) : W p l e0 R s m args below meth c H locs cells slots Q (F0 m pc lsA (st.map (xvm bs))) := by
  obtain ⟨⟨hx, hb, hml, hown, hts, hin, hcx, hbs⟩, hro, hH, hS, hl, ⟨hd1, hd2⟩, hc, hk2, hz⟩ := X
  have hci0 := (Bool.and_eq_true _ _ ▸ hci : _ ∧ _)
  obtain ⟨hlen0, hci2⟩ := hci0
  have hlen : len = 3 := Nat.eq_of_beq_eq_true hlen0
  subst hlen
  obtain ⟨y, r, rfl, hs⟩ := xpI_some hs
  obtain ⟨x, r, rfl, hs⟩ := xpI_some hs
  obtain ⟨rfl, rfl, rfl, rfl, rfl, rfl, rfl⟩ := xgo_some hs
  refine lv_icmp_eq hx hb hdg (of_decide_eq_true hci2) (fun hq => ?_) (fun hq => ?_)
  · have k1 := kk H locs lsA hro hH hS hl hz
    rw [show xbr .eq x y r1 (pc + 3) = r1 from if_pos hq] at k1
    exact k1
  · have k1 := kk H locs lsA hro hH hS hl hz
    rw [show xbr .eq x y r1 (pc + 3) = pc + 3 from if_neg hq] at k1
    exact k1
theorem xs_if_eq (q : Int) (X : xPre p R s m args meth c H locs cells slots D bs tc i d ls h n lsA kc ks) (hdg : decode (xMt i).2.1 pc = .ok (.ifCond .eq q, len)) (hci : xchi i pc (.ifCond .eq q, len, r1, r2, v0, ps) = true) (hs : xstp d (.ifCond .eq q, len, r1, r2, v0, ps) pc ls st h n = some (pc1, ls1, st1, h1, n1, kc, ks))
    (kk : xKk p l e0 R s m args below meth c cells slots Q D bs tc i pc1 ls1 st1 h1 n1 kc ks) : W p l e0 R s m args below meth c H locs cells slots Q (F0 m pc lsA (st.map (xvm bs))) := by
  obtain ⟨⟨hx, hb, hml, hown, hts, hin, hcx, hbs⟩, hro, hH, hS, hl, ⟨hd1, hd2⟩, hc, hk2, hz⟩ := X
  have hci0 := (Bool.and_eq_true _ _ ▸ hci : _ ∧ _)
  obtain ⟨hlen0, hci2⟩ := hci0
  have hlen : len = 3 := Nat.eq_of_beq_eq_true hlen0
  subst hlen
  obtain ⟨x, r, rfl, hs⟩ := xpI_some hs
  obtain ⟨rfl, rfl, rfl, rfl, rfl, rfl, rfl⟩ := xgo_some hs
  refine lv_if_eq hx hb hdg (of_decide_eq_true hci2) (fun hq => ?_) (fun hq => ?_)
  · have k1 := kk H locs lsA hro hH hS hl hz
    rw [show xb0 .eq x r1 (pc + 3) = r1 from if_pos hq] at k1
    exact k1
  · have k1 := kk H locs lsA hro hH hS hl hz
    rw [show xb0 .eq x r1 (pc + 3) = pc + 3 from if_neg hq] at k1
    exact k1
theorem xs_icmp_ne (q : Int) (X : xPre p R s m args meth c H locs cells slots D bs tc i d ls h n lsA kc ks) (hdg : decode (xMt i).2.1 pc = .ok (.if_icmp .ne q, len)) (hci : xchi i pc (.if_icmp .ne q, len, r1, r2, v0, ps) = true) (hs : xstp d (.if_icmp .ne q, len, r1, r2, v0, ps) pc ls st h n = some (pc1, ls1, st1, h1, n1, kc, ks))
    (kk : xKk p l e0 R s m args below meth c cells slots Q D bs tc i pc1 ls1 st1 h1 n1 kc ks) : W p l e0 R s m args below meth c H locs cells slots Q (F0 m pc lsA (st.map (xvm bs))) := by
  obtain ⟨⟨hx, hb, hml, hown, hts, hin, hcx, hbs⟩, hro, hH, hS, hl, ⟨hd1, hd2⟩, hc, hk2, hz⟩ := X
  have hci0 := (Bool.and_eq_true _ _ ▸ hci : _ ∧ _)
  obtain ⟨hlen0, hci2⟩ := hci0
  have hlen : len = 3 := Nat.eq_of_beq_eq_true hlen0
  subst hlen
  obtain ⟨y, r, rfl, hs⟩ := xpI_some hs
  obtain ⟨x, r, rfl, hs⟩ := xpI_some hs
  obtain ⟨rfl, rfl, rfl, rfl, rfl, rfl, rfl⟩ := xgo_some hs
  refine lv_icmp_ne hx hb hdg (of_decide_eq_true hci2) (fun hq => ?_) (fun hq => ?_)
  · have k1 := kk H locs lsA hro hH hS hl hz
    rw [show xbr .ne x y r1 (pc + 3) = r1 from if_neg hq] at k1
    exact k1
  · have k1 := kk H locs lsA hro hH hS hl hz
    rw [show xbr .ne x y r1 (pc + 3) = pc + 3 from if_pos hq] at k1
    exact k1
theorem xs_if_ne (q : Int) (X : xPre p R s m args meth c H locs cells slots D bs tc i d ls h n lsA kc ks) (hdg : decode (xMt i).2.1 pc = .ok (.ifCond .ne q, len)) (hci : xchi i pc (.ifCond .ne q, len, r1, r2, v0, ps) = true) (hs : xstp d (.ifCond .ne q, len, r1, r2, v0, ps) pc ls st h n = some (pc1, ls1, st1, h1, n1, kc, ks))
    (kk : xKk p l e0 R s m args below meth c cells slots Q D bs tc i pc1 ls1 st1 h1 n1 kc ks) : W p l e0 R s m args below meth c H locs cells slots Q (F0 m pc lsA (st.map (xvm bs))) := by
  obtain ⟨⟨hx, hb, hml, hown, hts, hin, hcx, hbs⟩, hro, hH, hS, hl, ⟨hd1, hd2⟩, hc, hk2, hz⟩ := X
  have hci0 := (Bool.and_eq_true _ _ ▸ hci : _ ∧ _)
  obtain ⟨hlen0, hci2⟩ := hci0
  have hlen : len = 3 := Nat.eq_of_beq_eq_true hlen0
  subst hlen
  obtain ⟨x, r, rfl, hs⟩ := xpI_some hs
  obtain ⟨rfl, rfl, rfl, rfl, rfl, rfl, rfl⟩ := xgo_some hs
  refine lv_if_ne hx hb hdg (of_decide_eq_true hci2) (fun hq => ?_) (fun hq => ?_)
  · have k1 := kk H locs lsA hro hH hS hl hz
    rw [show xb0 .ne x r1 (pc + 3) = r1 from if_neg hq] at k1
    exact k1
  · have k1 := kk H locs lsA hro hH hS hl hz
    rw [show xb0 .ne x r1 (pc + 3) = pc + 3 from if_pos hq] at k1
    exact k1
theorem xs_icmp_lt (q : Int) (X : xPre p R s m args meth c H locs cells slots D bs tc i d ls h n lsA kc ks) (hdg : decode (xMt i).2.1 pc = .ok (.if_icmp .lt q, len)) (hci : xchi i pc (.if_icmp .lt q, len, r1, r2, v0, ps) = true) (hs : xstp d (.if_icmp .lt q, len, r1, r2, v0, ps) pc ls st h n = some (pc1, ls1, st1, h1, n1, kc, ks))
    (kk : xKk p l e0 R s m args below meth c cells slots Q D bs tc i pc1 ls1 st1 h1 n1 kc ks) : W p l e0 R s m args below meth c H locs cells slots Q (F0 m pc lsA (st.map (xvm bs))) := by
  obtain ⟨⟨hx, hb, hml, hown, hts, hin, hcx, hbs⟩, hro, hH, hS, hl, ⟨hd1, hd2⟩, hc, hk2, hz⟩ := X
  have hci0 := (Bool.and_eq_true _ _ ▸ hci : _ ∧ _)
  obtain ⟨hlen0, hci2⟩ := hci0
  have hlen : len = 3 := Nat.eq_of_beq_eq_true hlen0
  subst hlen
  obtain ⟨y, r, rfl, hs⟩ := xpI_some hs
  obtain ⟨x, r, rfl, hs⟩ := xpI_some hs
  obtain ⟨rfl, rfl, rfl, rfl, rfl, rfl, rfl⟩ := xgo_some hs
  refine lv_icmp_lt hx hb hdg (of_decide_eq_true hci2) (fun hq => ?_) (fun hq => ?_)
  · have k1 := kk H locs lsA hro hH hS hl hz
    rw [show xbr .lt x y r1 (pc + 3) = r1 from if_pos hq] at k1
    exact k1
  · have k1 := kk H locs lsA hro hH hS hl hz
    rw [show xbr .lt x y r1 (pc + 3) = pc + 3 from if_neg hq] at k1
    exact k1
theorem xs_if_lt (q : Int) (X : xPre p R s m args meth c H locs cells slots D bs tc i d ls h n lsA kc ks) (hdg : decode (xMt i).2.1 pc = .ok (.ifCond .lt q, len)) (hci : xchi i pc (.ifCond .lt q, len, r1, r2, v0, ps) = true) (hs : xstp d (.ifCond .lt q, len, r1, r2, v0, ps) pc ls st h n = some (pc1, ls1, st1, h1, n1, kc, ks))
    (kk : xKk p l e0 R s m args below meth c cells slots Q D bs tc i pc1 ls1 st1 h1 n1 kc ks) : W p l e0 R s m args below meth c H locs cells slots Q (F0 m pc lsA (st.map (xvm bs))) := by
  obtain ⟨⟨hx, hb, hml, hown, hts, hin, hcx, hbs⟩, hro, hH, hS, hl, ⟨hd1, hd2⟩, hc, hk2, hz⟩ := X
  have hci0 := (Bool.and_eq_true _ _ ▸ hci : _ ∧ _)
  obtain ⟨hlen0, hci2⟩ := hci0
  have hlen : len = 3 := Nat.eq_of_beq_eq_true hlen0
  subst hlen
  obtain ⟨x, r, rfl, hs⟩ := xpI_some hs
  obtain ⟨rfl, rfl, rfl, rfl, rfl, rfl, rfl⟩ := xgo_some hs
  refine lv_if_lt hx hb hdg (of_decide_eq_true hci2) (fun hq => ?_) (fun hq => ?_)
  · have k1 := kk H locs lsA hro hH hS hl hz
    rw [show xb0 .lt x r1 (pc + 3) = r1 from if_pos hq] at k1
    exact k1
  · have k1 := kk H locs lsA hro hH hS hl hz
    rw [show xb0 .lt x r1 (pc + 3) = pc + 3 from if_neg hq] at k1
    exact k1
theorem xs_icmp_ge (q : Int) (X : xPre p R s m args meth c H locs cells slots D bs tc i d ls h n lsA kc ks) (hdg : decode (xMt i).2.1 pc = .ok (.if_icmp .ge q, len)) (hci : xchi i pc (.if_icmp .ge q, len, r1, r2, v0, ps) = true) (hs : xstp d (.if_icmp .ge q, len, r1, r2, v0, ps) pc ls st h n = some (pc1, ls1, st1, h1, n1, kc, ks))
    (kk : xKk p l e0 R s m args below meth c cells slots Q D bs tc i pc1 ls1 st1 h1 n1 kc ks) : W p l e0 R s m args below meth c H locs cells slots Q (F0 m pc lsA (st.map (xvm bs))) := by
  obtain ⟨⟨hx, hb, hml, hown, hts, hin, hcx, hbs⟩, hro, hH, hS, hl, ⟨hd1, hd2⟩, hc, hk2, hz⟩ := X
  have hci0 := (Bool.and_eq_true _ _ ▸ hci : _ ∧ _)
  obtain ⟨hlen0, hci2⟩ := hci0
  have hlen : len = 3 := Nat.eq_of_beq_eq_true hlen0
  subst hlen
  obtain ⟨y, r, rfl, hs⟩ := xpI_some hs
  obtain ⟨x, r, rfl, hs⟩ := xpI_some hs
  obtain ⟨rfl, rfl, rfl, rfl, rfl, rfl, rfl⟩ := xgo_some hs
  refine lv_icmp_ge hx hb hdg (of_decide_eq_true hci2) (fun hq => ?_) (fun hq => ?_)
  · have k1 := kk H locs lsA hro hH hS hl hz
    rw [show xbr .ge x y r1 (pc + 3) = r1 from if_pos hq] at k1
    exact k1
  · have k1 := kk H locs lsA hro hH hS hl hz
    rw [show xbr .ge x y r1 (pc + 3) = pc + 3 from if_neg hq] at k1
    exact k1
theorem xs_if_ge (q : Int) (X : xPre p R s m args meth c H locs cells slots D bs tc i d ls h n lsA kc ks) (hdg : decode (xMt i).2.1 pc = .ok (.ifCond .ge q, len)) (hci : xchi i pc (.ifCond .ge q, len, r1, r2, v0, ps) = true) (hs : xstp d (.ifCond .ge q, len, r1, r2, v0, ps) pc ls st h n = some (pc1, ls1, st1, h1, n1, kc, ks))
    (kk : xKk p l e0 R s m args below meth c cells slots Q D bs tc i pc1 ls1 st1 h1 n1 kc ks) : W p l e0 R s m args below meth c H locs cells slots Q (F0 m pc lsA (st.map (xvm bs))) := by
  obtain ⟨⟨hx, hb, hml, hown, hts, hin, hcx, hbs⟩, hro, hH, hS, hl, ⟨hd1, hd2⟩, hc, hk2, hz⟩ := X
  have hci0 := (Bool.and_eq_true _ _ ▸ hci : _ ∧ _)
  obtain ⟨hlen0, hci2⟩ := hci0
  have hlen : len = 3 := Nat.eq_of_beq_eq_true hlen0
  subst hlen
  obtain ⟨x, r, rfl, hs⟩ := xpI_some hs
  obtain ⟨rfl, rfl, rfl, rfl, rfl, rfl, rfl⟩ := xgo_some hs
  refine lv_if_ge hx hb hdg (of_decide_eq_true hci2) (fun hq => ?_) (fun hq => ?_)
  · have k1 := kk H locs lsA hro hH hS hl hz
    rw [show xb0 .ge x r1 (pc + 3) = r1 from if_pos hq] at k1
    exact k1
  · have k1 := kk H locs lsA hro hH hS hl hz
    rw [show xb0 .ge x r1 (pc + 3) = pc + 3 from if_neg hq] at k1
    exact k1
theorem xs_icmp_gt (q : Int) (X : xPre p R s m args meth c H locs cells slots D bs tc i d ls h n lsA kc ks) (hdg : decode (xMt i).2.1 pc = .ok (.if_icmp .gt q, len)) (hci : xchi i pc (.if_icmp .gt q, len, r1, r2, v0, ps) = true) (hs : xstp d (.if_icmp .gt q, len, r1, r2, v0, ps) pc ls st h n = some (pc1, ls1, st1, h1, n1, kc, ks))
    (kk : xKk p l e0 R s m args below meth c cells slots Q D bs tc i pc1 ls1 st1 h1 n1 kc ks) : W p l e0 R s m args below meth c H locs cells slots Q (F0 m pc lsA (st.map (xvm bs))) := by
  obtain ⟨⟨hx, hb, hml, hown, hts, hin, hcx, hbs⟩, hro, hH, hS, hl, ⟨hd1, hd2⟩, hc, hk2, hz⟩ := X
  have hci0 := (Bool.and_eq_true _ _ ▸ hci : _ ∧ _)
  obtain ⟨hlen0, hci2⟩ := hci0
  have hlen : len = 3 := Nat.eq_of_beq_eq_true hlen0
  subst hlen
  obtain ⟨y, r, rfl, hs⟩ := xpI_some hs
  obtain ⟨x, r, rfl, hs⟩ := xpI_some hs
  obtain ⟨rfl, rfl, rfl, rfl, rfl, rfl, rfl⟩ := xgo_some hs
  refine lv_icmp_gt hx hb hdg (of_decide_eq_true hci2) (fun hq => ?_) (fun hq => ?_)
  · have k1 := kk H locs lsA hro hH hS hl hz
    rw [show xbr .gt x y r1 (pc + 3) = r1 from if_pos hq] at k1
    exact k1
  · have k1 := kk H locs lsA hro hH hS hl hz
    rw [show xbr .gt x y r1 (pc + 3) = pc + 3 from if_neg hq] at k1
    exact k1
theorem xs_if_gt (q : Int) (X : xPre p R s m args meth c H locs cells slots D bs tc i d ls h n lsA kc ks) (hdg : decode (xMt i).2.1 pc = .ok (.ifCond .gt q, len)) (hci : xchi i pc (.ifCond .gt q, len, r1, r2, v0, ps) = true) (hs : xstp d (.ifCond .gt q, len, r1, r2, v0, ps) pc ls st h n = some (pc1, ls1, st1, h1, n1, kc, ks))
    (kk : xKk p l e0 R s m args below meth c cells slots Q D bs tc i pc1 ls1 st1 h1 n1 kc ks) : W p l e0 R s m args below meth c H locs cells slots Q (F0 m pc lsA (st.map (xvm bs))) := by
  obtain ⟨⟨hx, hb, hml, hown, hts, hin, hcx, hbs⟩, hro, hH, hS, hl, ⟨hd1, hd2⟩, hc, hk2, hz⟩ := X
  have hci0 := (Bool.and_eq_true _ _ ▸ hci : _ ∧ _)
  obtain ⟨hlen0, hci2⟩ := hci0
  have hlen : len = 3 := Nat.eq_of_beq_eq_true hlen0
  subst hlen
  obtain ⟨x, r, rfl, hs⟩ := xpI_some hs
  obtain ⟨rfl, rfl, rfl, rfl, rfl, rfl, rfl⟩ := xgo_some hs
  refine lv_if_gt hx hb hdg (of_decide_eq_true hci2) (fun hq => ?_) (fun hq => ?_)
  · have k1 := kk H locs lsA hro hH hS hl hz
    rw [show xb0 .gt x r1 (pc + 3) = r1 from if_pos hq] at k1
    exact k1
  · have k1 := kk H locs lsA hro hH hS hl hz
    rw [show xb0 .gt x r1 (pc + 3) = pc + 3 from if_neg hq] at k1
    exact k1
theorem xs_icmp_le (q : Int) (X : xPre p R s m args meth c H locs cells slots D bs tc i d ls h n lsA kc ks) (hdg : decode (xMt i).2.1 pc = .ok (.if_icmp .le q, len)) (hci : xchi i pc (.if_icmp .le q, len, r1, r2, v0, ps) = true) (hs : xstp d (.if_icmp .le q, len, r1, r2, v0, ps) pc ls st h n = some (pc1, ls1, st1, h1, n1, kc, ks))
    (kk : xKk p l e0 R s m args below meth c cells slots Q D bs tc i pc1 ls1 st1 h1 n1 kc ks) : W p l e0 R s m args below meth c H locs cells slots Q (F0 m pc lsA (st.map (xvm bs))) := by
  obtain ⟨⟨hx, hb, hml, hown, hts, hin, hcx, hbs⟩, hro, hH, hS, hl, ⟨hd1, hd2⟩, hc, hk2, hz⟩ := X
  have hci0 := (Bool.and_eq_true _ _ ▸ hci : _ ∧ _)
  obtain ⟨hlen0, hci2⟩ := hci0
  have hlen : len = 3 := Nat.eq_of_beq_eq_true hlen0
  subst hlen
  obtain ⟨y, r, rfl, hs⟩ := xpI_some hs
  obtain ⟨x, r, rfl, hs⟩ := xpI_some hs
  obtain ⟨rfl, rfl, rfl, rfl, rfl, rfl, rfl⟩ := xgo_some hs
  refine lv_icmp_le hx hb hdg (of_decide_eq_true hci2) (fun hq => ?_) (fun hq => ?_)
  · have k1 := kk H locs lsA hro hH hS hl hz
    rw [show xbr .le x y r1 (pc + 3) = r1 from if_pos hq] at k1
    exact k1
  · have k1 := kk H locs lsA hro hH hS hl hz
    rw [show xbr .le x y r1 (pc + 3) = pc + 3 from if_neg hq] at k1
    exact k1
theorem xs_if_le (q : Int) (X : xPre p R s m args meth c H locs cells slots D bs tc i d ls h n lsA kc ks) (hdg : decode (xMt i).2.1 pc = .ok (.ifCond .le q, len)) (hci : xchi i pc (.ifCond .le q, len, r1, r2, v0, ps) = true) (hs : xstp d (.ifCond .le q, len, r1, r2, v0, ps) pc ls st h n = some (pc1, ls1, st1, h1, n1, kc, ks))
    (kk : xKk p l e0 R s m args below meth c cells slots Q D bs tc i pc1 ls1 st1 h1 n1 kc ks) : W p l e0 R s m args below meth c H locs cells slots Q (F0 m pc lsA (st.map (xvm bs))) := by
  obtain ⟨⟨hx, hb, hml, hown, hts, hin, hcx, hbs⟩, hro, hH, hS, hl, ⟨hd1, hd2⟩, hc, hk2, hz⟩ := X
  have hci0 := (Bool.and_eq_true _ _ ▸ hci : _ ∧ _)
  obtain ⟨hlen0, hci2⟩ := hci0
  have hlen : len = 3 := Nat.eq_of_beq_eq_true hlen0
  subst hlen
  obtain ⟨x, r, rfl, hs⟩ := xpI_some hs
  obtain ⟨rfl, rfl, rfl, rfl, rfl, rfl, rfl⟩ := xgo_some hs
  refine lv_if_le hx hb hdg (of_decide_eq_true hci2) (fun hq => ?_) (fun hq => ?_)
  · have k1 := kk H locs lsA hro hH hS hl hz
    rw [show xb0 .le x r1 (pc + 3) = r1 from if_pos hq] at k1
    exact k1
  · have k1 := kk H locs lsA hro hH hS hl hz
    rw [show xb0 .le x r1 (pc + 3) = pc + 3 from if_neg hq] at k1
    exact k1
theorem xs_tableswitch (df lo hi : Int) (offs : Array Int) (X : xPre p R s m args meth c H locs cells slots D bs tc i d ls h n lsA kc ks) (hdg : decode (xMt i).2.1 pc = .ok (.tableswitch df lo hi offs, len)) (hci : xchi i pc (.tableswitch df lo hi offs, len, r1, r2, v0, ps) = true) (hs : xstp d (.tableswitch df lo hi offs, len, r1, r2, v0, ps) pc ls st h n = some (pc1, ls1, st1, h1, n1, kc, ks))
    (kk : xKk p l e0 R s m args below meth c cells slots Q D bs tc i pc1 ls1 st1 h1 n1 kc ks) : W p l e0 R s m args below meth c H locs cells slots Q (F0 m pc lsA (st.map (xvm bs))) := by
  obtain ⟨⟨hx, hb, hml, hown, hts, hin, hcx, hbs⟩, hro, hH, hS, hl, ⟨hd1, hd2⟩, hc, hk2, hz⟩ := X
  have hci3 := (Bool.and_eq_true _ _ ▸ hci : _ ∧ _)
  have hsz : offs.size = (hi - lo + 1).toNat := of_decide_eq_true hci3.1
  obtain ⟨x, r, rfl, hs⟩ := xpI_some hs
  obtain ⟨hp, hs⟩ := xgp_some hs
  obtain ⟨rfl, rfl, rfl, rfl, rfl, rfl, rfl⟩ := xgo_some hs
  have k1 := kk H locs lsA hro hH hS hl hz
  by_cases hout : x.toInt < lo ∨ hi < x.toInt
  · have e1 : xsw x.toInt df lo hi offs = df := if_pos hout
    rw [e1] at hp k1
    exact lv_tableOut (tgt := ((pc : Int) + df).toNat) hx hb hdg hout (Int.toNat_of_nonneg hp).symm k1
  · have h1 : ¬ x.toInt < lo := fun q => hout (Or.inl q)
    have h2 : ¬ hi < x.toInt := fun q => hout (Or.inr q)
    have hlt : (x.toInt - lo).toNat < offs.size := by rw [hsz]; omega
    have e1 : xsw x.toInt df lo hi offs = offs[(x.toInt - lo).toNat] := by
      unfold xsw
      rw [if_neg hout, Array.getElem?_eq_getElem hlt]
      rfl
    rw [e1] at hp k1
    exact lv_tableIn (tgt := ((pc : Int) + offs[(x.toInt - lo).toNat]).toNat) hx hb hdg h1 h2 (Array.getElem?_eq_getElem hlt) (Int.toNat_of_nonneg hp).symm k1
theorem xs_lookupswitch (df : Int) (qs : Array (Int × Int)) (X : xPre p R s m args meth c H locs cells slots D bs tc i d ls h n lsA kc ks) (hdg : decode (xMt i).2.1 pc = .ok (.lookupswitch df qs, len)) (hci : xchi i pc (.lookupswitch df qs, len, r1, r2, v0, ps) = true) (hs : xstp d (.lookupswitch df qs, len, r1, r2, v0, ps) pc ls st h n = some (pc1, ls1, st1, h1, n1, kc, ks))
    (kk : xKk p l e0 R s m args below meth c cells slots Q D bs tc i pc1 ls1 st1 h1 n1 kc ks) : W p l e0 R s m args below meth c H locs cells slots Q (F0 m pc lsA (st.map (xvm bs))) := by
  obtain ⟨⟨hx, hb, hml, hown, hts, hin, hcx, hbs⟩, hro, hH, hS, hl, ⟨hd1, hd2⟩, hc, hk2, hz⟩ := X
  obtain ⟨x, r, rfl, hs⟩ := xpI_some hs
  obtain ⟨hp, hs⟩ := xgp_some hs
  obtain ⟨rfl, rfl, rfl, rfl, rfl, rfl, rfl⟩ := xgo_some hs
  exact lv_lookup (tgt := ((pc : Int) + Op.lookupswitch.offset qs.toList df x.toInt).toNat) hx hb hdg hci rfl (Int.toNat_of_nonneg hp).symm (kk H locs lsA hro hH hS hl hz)
theorem xs_getfield (q : Nat) (X : xPre p R s m args meth c H locs cells slots D bs tc i d ls h n lsA kc ks) (hdg : decode (xMt i).2.1 pc = .ok (.getfield q, len)) (hci : xchi i pc (.getfield q, len, r1, r2, v0, ps) = true) (hs : xstp d (.getfield q, len, r1, r2, v0, ps) pc ls st h n = some (pc1, ls1, st1, h1, n1, kc, ks))
    (kk : xKk p l e0 R s m args below meth c cells slots Q D bs tc i pc1 ls1 st1 h1 n1 kc ks) : W p l e0 R s m args below meth c H locs cells slots Q (F0 m pc lsA (st.map (xvm bs))) := by
  obtain ⟨⟨hx, hb, hml, hown, hts, hin, hcx, hbs⟩, hro, hH, hS, hl, ⟨hd1, hd2⟩, hc, hk2, hz⟩ := X
  have hci0 := (Bool.and_eq_true _ _ ▸ hci : _ ∧ _)
  obtain ⟨hlen0, hci2⟩ := hci0
  have hlen : len = 3 := Nat.eq_of_beq_eq_true hlen0
  subst hlen
  obtain ⟨C, T, N, hcl, hN, hw⟩ := xfl_some hci2
  obtain ⟨k, r, rfl, hs⟩ := xpR_some hs
  obtain ⟨ci, fs, hk, hs⟩ := xcO_some hs
  obtain ⟨hb1, hs⟩ := xgd_some hs
  have hb2 : ci = r1 := Nat.eq_of_beq_eq_true hb1
  subst hb2
  obtain ⟨v, hv, hs⟩ := xgO_some hs
  obtain ⟨rfl, rfl, rfl, rfl, rfl, rfl, rfl⟩ := xgo_some hs
  obtain ⟨w1, w2, w3, w4, w5, w6, w7⟩ := xcl_ok hcl
  obtain ⟨h3, hn, he⟩ := xobj hro hH hk w6
  exact va_get (v := xvm bs v) hx hb hts w1 hown hcx.1 hH.2.2.1 (k - 3) he hcl r2 hN (hts _ hw) (fun z hz => by rw [w2 _ hN] at hz; exact hz) (by rw [List.getElem?_map]; exact congrArg (Option.map (xvm bs)) hv) hdg (kk H locs lsA hro hH hS hl hz)
theorem xs_putfield (q : Nat) (X : xPre p R s m args meth c H locs cells slots D bs tc i d ls h n lsA kc ks) (hdg : decode (xMt i).2.1 pc = .ok (.putfield q, len)) (hci : xchi i pc (.putfield q, len, r1, r2, v0, ps) = true) (hs : xstp d (.putfield q, len, r1, r2, v0, ps) pc ls st h n = some (pc1, ls1, st1, h1, n1, kc, ks))
    (kk : xKk p l e0 R s m args below meth c cells slots Q D bs tc i pc1 ls1 st1 h1 n1 kc ks) : W p l e0 R s m args below meth c H locs cells slots Q (F0 m pc lsA (st.map (xvm bs))) := by
  obtain ⟨⟨hx, hb, hml, hown, hts, hin, hcx, hbs⟩, hro, hH, hS, hl, ⟨hd1, hd2⟩, hc, hk2, hz⟩ := X
  have hci0 := (Bool.and_eq_true _ _ ▸ hci : _ ∧ _)
  obtain ⟨hlen0, hci2⟩ := hci0
  have hlen : len = 3 := Nat.eq_of_beq_eq_true hlen0
  subst hlen
  have hci4 := (Bool.and_eq_true _ _ ▸ hci2 : _ ∧ _)
  obtain ⟨hci5, hci6⟩ := hci4
  obtain ⟨C, T, N, hcl, hN, hw⟩ := xfl_some hci5
  obtain ⟨v, r, rfl, hs⟩ := xpV_some hs
  obtain ⟨k, r, rfl, hs⟩ := xpR_some hs
  obtain ⟨ci, fs, hk, hs⟩ := xcO_some hs
  obtain ⟨hb1, hs⟩ := xgd_some hs
  have hb2 : ci = r1 := Nat.eq_of_beq_eq_true hb1
  subst hb2
  obtain ⟨hft, hs⟩ := xgd_some hs
  obtain ⟨hfl, hs⟩ := xgd_some hs
  have hfl2 : r2 < fs.length := Nat.le_of_ble_eq_true hfl
  obtain ⟨rfl, rfl, rfl, rfl, rfl, rfl, rfl⟩ := xgo_some hs
  obtain ⟨w1, w2, w3, w4, w5, w6, w7⟩ := xcl_ok hcl
  obtain ⟨h3, hn, he⟩ := xobj hro hH hk w6
  have hnar : narrow (xfty ci r2) (xvm bs v) = xvm bs v := xfit_all (xfty_ok hcl r2 hN) _ (by rw [xfit_vm]; exact hft)
  have hset : ∀ (H1 : Heap) (locs1 : List Loc), va_P D xcl ((xws bs tc h n).set (k - 3) (xad bs k, .inr (ci, (fs.map (xvm bs)).set r2 (xvm bs v)))) H1 → va_D (xA bs) ((xws bs tc h n).set (k - 3) (xad bs k, .inr (ci, (fs.map (xvm bs)).set r2 (xvm bs v)))) → va_S (xA bs) H H1 locs1 → W p l e0 R s m args below meth c H1 locs1 cells slots Q (F0 m (pc + 3) lsA (r.map (xvm bs))) := by
    intro H1 locs1 g1 g2 g3
    refine xsz fun hle => ?_
    rw [← List.map_set] at g1
    obtain ⟨y1, y2⟩ := xstore (c1 := .inr (ci, fs.set r2 v)) hH hS hz h3 hn g1 g3 hle
    exact kk H1 locs1 lsA (hro.put h3) y1 y2 hl hz
  by_cases hfin : (T r2).2.2.2 = true
  · have hff : xff i (.putfield q, 3, ci, r2, v0, ps) = true := hci6
    unfold xff at hff
    rw [hcl] at hff
    simp only [hfin, Bool.not_true, Bool.false_or, Bool.and_eq_true, decide_eq_true_eq] at hff
    exact va_putF (v := xvm bs v) hx hb hts w1 _ w3 w4 hown hcx.1 hH.2.2.1 xws_D (xS_self hS) (k - 3) he hcl r2 hN (hts _ hw) (fun z hz => by rw [w2 _ hN] at hz; exact hz) hfin (hin hff.1) (by rw [w2 _ hN]; exact hff.2.symm) (w3 _ hN) hnar (by rw [xfit_vm]; exact hft) (by rw [List.length_map]; exact hfl2) hdg hset
  · exact va_put (v := xvm bs v) hx hb hts w1 _ w3 w4 hown hcx.1 hH.2.2.1 xws_D (xS_self hS) (k - 3) he hcl r2 hN (hts _ hw) (fun z hz => by rw [w2 _ hN] at hz; exact hz) (by simpa using hfin) (w3 _ hN) hnar (by rw [xfit_vm]; exact hft) (by rw [List.length_map]; exact hfl2) hdg hset
theorem xs_getstatic (q : Nat) (X : xPre p R s m args meth c H locs cells slots D bs tc i d ls h n lsA kc ks) (hdg : decode (xMt i).2.1 pc = .ok (.getstatic q, len)) (hci : xchi i pc (.getstatic q, len, r1, r2, v0, ps) = true) (hs : xstp d (.getstatic q, len, r1, r2, v0, ps) pc ls st h n = some (pc1, ls1, st1, h1, n1, kc, ks))
    (kk : xKk p l e0 R s m args below meth c cells slots Q D bs tc i pc1 ls1 st1 h1 n1 kc ks) : W p l e0 R s m args below meth c H locs cells slots Q (F0 m pc lsA (st.map (xvm bs))) := by
  obtain ⟨⟨hx, hb, hml, hown, hts, hin, hcx, hbs⟩, hro, hH, hS, hl, ⟨hd1, hd2⟩, hc, hk2, hz⟩ := X
  have hci0 := (Bool.and_eq_true _ _ ▸ hci : _ ∧ _)
  obtain ⟨hlen0, hci2⟩ := hci0
  have hlen : len = 3 := Nat.eq_of_beq_eq_true hlen0
  subst hlen
  obtain ⟨rfl, rfl, rfl, rfl, rfl, rfl, rfl⟩ := xgo_some hs
  obtain ⟨hown2, hci4⟩ := (Bool.and_eq_true _ _ ▸ hci2 : _ ∧ _)
  have hown3 : (xMt i).1.cls = "BraidHorns$Track" := of_decide_eq_true hown2
  rw [hown3] at hown
  obtain ⟨k1, k2, k3, k4, k5, k6, k7, k8⟩ := hcx
  rcases (Bool.or_eq_true _ _ ▸ hci4 : _ ∨ _) with hq | hq
  · obtain ⟨hq1, hq2⟩ := (Bool.and_eq_true _ _ ▸ hq : _ ∧ _)
    have e1 : q = 121 := Nat.eq_of_beq_eq_true hq1
    have e2 : r1 = 1 := Nat.eq_of_beq_eq_true hq2
    subst e1; subst e2
    exact va_getsN hx hb k2 hS hown (k6.use rfl) (fun _ hz => hz) hdg (kk H locs lsA hro hH hS hl hz)
  · obtain ⟨hq1, hq2⟩ := (Bool.and_eq_true _ _ ▸ hq : _ ∧ _)
    have e1 : q = 95 := Nat.eq_of_beq_eq_true hq1
    have e2 : r1 = 2 := Nat.eq_of_beq_eq_true hq2
    subst e1; subst e2
    exact va_getsN hx hb k3 hS hown (k7.use rfl) (fun _ hz => hz) hdg (kk H locs lsA hro hH hS hl hz)
theorem xs_iaload (X : xPre p R s m args meth c H locs cells slots D bs tc i d ls h n lsA kc ks) (hdg : decode (xMt i).2.1 pc = .ok (.iaload, len)) (hci : xchi i pc (.iaload, len, r1, r2, v0, ps) = true) (hs : xstp d (.iaload, len, r1, r2, v0, ps) pc ls st h n = some (pc1, ls1, st1, h1, n1, kc, ks))
    (kk : xKk p l e0 R s m args below meth c cells slots Q D bs tc i pc1 ls1 st1 h1 n1 kc ks) : W p l e0 R s m args below meth c H locs cells slots Q (F0 m pc lsA (st.map (xvm bs))) := by
  obtain ⟨⟨hx, hb, hml, hown, hts, hin, hcx, hbs⟩, hro, hH, hS, hl, ⟨hd1, hd2⟩, hc, hk2, hz⟩ := X
  have hlen : len = 1 := Nat.eq_of_beq_eq_true hci
  subst hlen
  obtain ⟨j, r, rfl, hs⟩ := xpI_some hs
  obtain ⟨k, r, rfl, hs⟩ := xpR_some hs
  obtain ⟨t, ln, f, hk, hs⟩ := xcI_some hs
  obtain ⟨hb1, hs⟩ := xgd_some hs
  have hb2 : t = 0 := Nat.eq_of_beq_eq_true hb1
  subst hb2
  obtain ⟨hj, hs⟩ := xgp_some hs
  obtain ⟨rfl, rfl, rfl, rfl, rfl, rfl, rfl⟩ := xgo_some hs
  rcases Nat.lt_or_ge k 3 with hlt | h3
  · obtain ⟨len2, f2, e1, e2, e3⟩ := hro k hlt
    rw [hk] at e1
    injection e1 with e1
    injection e1 with _ e1
    injection e1 with ea eb
    injection eb with eb
    subst ea; subst eb
    have ea : xad bs k = bs k := if_pos hlt
    show W p l e0 R s m args below meth c H locs cells slots Q (F0 m pc lsA (.int j :: .ref (xad bs k) :: r.map (xvm bs)))
    rw [ea]
    exact va_sld hx hb e2 (Nat.lt_of_lt_of_le e3 hbs) (Nat.not_le.mpr e3) hS hj hdg (kk H locs lsA hro hH hS hl hz)
  · obtain ⟨hn, he⟩ := xarr hH hk h3
    exact va_iald hx hb hcx.1 hH.2.2.1 (k - 3) 0 he rfl hj hdg (kk H locs lsA hro hH hS hl hz)
theorem xs_baload (X : xPre p R s m args meth c H locs cells slots D bs tc i d ls h n lsA kc ks) (hdg : decode (xMt i).2.1 pc = .ok (.baload, len)) (hci : xchi i pc (.baload, len, r1, r2, v0, ps) = true) (hs : xstp d (.baload, len, r1, r2, v0, ps) pc ls st h n = some (pc1, ls1, st1, h1, n1, kc, ks))
    (kk : xKk p l e0 R s m args below meth c cells slots Q D bs tc i pc1 ls1 st1 h1 n1 kc ks) : W p l e0 R s m args below meth c H locs cells slots Q (F0 m pc lsA (st.map (xvm bs))) := by
  obtain ⟨⟨hx, hb, hml, hown, hts, hin, hcx, hbs⟩, hro, hH, hS, hl, ⟨hd1, hd2⟩, hc, hk2, hz⟩ := X
  have hlen : len = 1 := Nat.eq_of_beq_eq_true hci
  subst hlen
  obtain ⟨j, r, rfl, hs⟩ := xpI_some hs
  obtain ⟨k, r, rfl, hs⟩ := xpR_some hs
  obtain ⟨t, ln, f, hk, hs⟩ := xcI_some hs
  obtain ⟨hb1, hs⟩ := xgd_some hs
  have hb2 : t = 1 := Nat.eq_of_beq_eq_true hb1
  subst hb2
  obtain ⟨hj, hs⟩ := xgp_some hs
  obtain ⟨rfl, rfl, rfl, rfl, rfl, rfl, rfl⟩ := xgo_some hs
  have h3 : 3 ≤ k := by
    rcases Nat.lt_or_ge k 3 with hlt | hge
    · obtain ⟨_, _, e1, -⟩ := hro k hlt
      rw [hk] at e1
      cases e1
    · exact hge
  obtain ⟨hn, he⟩ := xarr hH hk h3
  exact va_zald hx hb hcx.1 hH.2.2.1 (k - 3) 1 he rfl hj hdg (kk H locs lsA hro hH hS hl hz)
theorem xs_caload (X : xPre p R s m args meth c H locs cells slots D bs tc i d ls h n lsA kc ks) (hdg : decode (xMt i).2.1 pc = .ok (.caload, len)) (hci : xchi i pc (.caload, len, r1, r2, v0, ps) = true) (hs : xstp d (.caload, len, r1, r2, v0, ps) pc ls st h n = some (pc1, ls1, st1, h1, n1, kc, ks))
    (kk : xKk p l e0 R s m args below meth c cells slots Q D bs tc i pc1 ls1 st1 h1 n1 kc ks) : W p l e0 R s m args below meth c H locs cells slots Q (F0 m pc lsA (st.map (xvm bs))) := by
  obtain ⟨⟨hx, hb, hml, hown, hts, hin, hcx, hbs⟩, hro, hH, hS, hl, ⟨hd1, hd2⟩, hc, hk2, hz⟩ := X
  have hlen : len = 1 := Nat.eq_of_beq_eq_true hci
  subst hlen
  obtain ⟨j, r, rfl, hs⟩ := xpI_some hs
  obtain ⟨k, r, rfl, hs⟩ := xpR_some hs
  obtain ⟨t, ln, f, hk, hs⟩ := xcI_some hs
  obtain ⟨hb1, hs⟩ := xgd_some hs
  have hb2 : t = 2 := Nat.eq_of_beq_eq_true hb1
  subst hb2
  obtain ⟨hj, hs⟩ := xgp_some hs
  obtain ⟨rfl, rfl, rfl, rfl, rfl, rfl, rfl⟩ := xgo_some hs
  have h3 : 3 ≤ k := by
    rcases Nat.lt_or_ge k 3 with hlt | hge
    · obtain ⟨_, _, e1, -⟩ := hro k hlt
      rw [hk] at e1
      cases e1
    · exact hge
  obtain ⟨hn, he⟩ := xarr hH hk h3
  exact va_cald hx hb hcx.1 hH.2.2.1 (k - 3) 2 he rfl hj hdg (kk H locs lsA hro hH hS hl hz)
theorem xs_iastore (X : xPre p R s m args meth c H locs cells slots D bs tc i d ls h n lsA kc ks) (hdg : decode (xMt i).2.1 pc = .ok (.iastore, len)) (hci : xchi i pc (.iastore, len, r1, r2, v0, ps) = true) (hs : xstp d (.iastore, len, r1, r2, v0, ps) pc ls st h n = some (pc1, ls1, st1, h1, n1, kc, ks))
    (kk : xKk p l e0 R s m args below meth c cells slots Q D bs tc i pc1 ls1 st1 h1 n1 kc ks) : W p l e0 R s m args below meth c H locs cells slots Q (F0 m pc lsA (st.map (xvm bs))) := by
  obtain ⟨⟨hx, hb, hml, hown, hts, hin, hcx, hbs⟩, hro, hH, hS, hl, ⟨hd1, hd2⟩, hc, hk2, hz⟩ := X
  have hlen : len = 1 := Nat.eq_of_beq_eq_true hci
  subst hlen
  obtain ⟨x, r, rfl, hs⟩ := xpI_some hs
  obtain ⟨j, r, rfl, hs⟩ := xpI_some hs
  obtain ⟨k, r, rfl, hs⟩ := xpR_some hs
  obtain ⟨t, ln, f, hk, hs⟩ := xcI_some hs
  obtain ⟨h3b, hs⟩ := xgd_some hs
  have h3 : 3 ≤ k := Nat.le_of_ble_eq_true h3b
  obtain ⟨hb1, hs⟩ := xgd_some hs
  have hb2 : t = 0 := Nat.eq_of_beq_eq_true hb1
  subst hb2
  obtain ⟨hj, hs⟩ := xgp_some hs
  obtain ⟨rfl, rfl, rfl, rfl, rfl, rfl, rfl⟩ := xgo_some hs
  obtain ⟨hn, he⟩ := xarr hH hk h3
  refine va_iast hx hb hcx.1 hH.2.2.1 xws_D (xS_self hS) (k - 3) 0 he rfl hj hdg (fun H1 locs1 g1 g2 g3 => xsz fun hle => ?_)
  obtain ⟨y1, y2⟩ := xstore (c1 := .inl (0, ln, .inl (upd f j.toNatClampNeg x))) hH hS hz h3 hn g1 g3 hle
  exact kk H1 locs1 lsA (hro.put h3) y1 y2 hl hz
theorem xs_bastore (X : xPre p R s m args meth c H locs cells slots D bs tc i d ls h n lsA kc ks) (hdg : decode (xMt i).2.1 pc = .ok (.bastore, len)) (hci : xchi i pc (.bastore, len, r1, r2, v0, ps) = true) (hs : xstp d (.bastore, len, r1, r2, v0, ps) pc ls st h n = some (pc1, ls1, st1, h1, n1, kc, ks))
    (kk : xKk p l e0 R s m args below meth c cells slots Q D bs tc i pc1 ls1 st1 h1 n1 kc ks) : W p l e0 R s m args below meth c H locs cells slots Q (F0 m pc lsA (st.map (xvm bs))) := by
  obtain ⟨⟨hx, hb, hml, hown, hts, hin, hcx, hbs⟩, hro, hH, hS, hl, ⟨hd1, hd2⟩, hc, hk2, hz⟩ := X
  have hlen : len = 1 := Nat.eq_of_beq_eq_true hci
  subst hlen
  obtain ⟨x, r, rfl, hs⟩ := xpI_some hs
  obtain ⟨j, r, rfl, hs⟩ := xpI_some hs
  obtain ⟨k, r, rfl, hs⟩ := xpR_some hs
  obtain ⟨t, ln, f, hk, hs⟩ := xcI_some hs
  obtain ⟨h3b, hs⟩ := xgd_some hs
  have h3 : 3 ≤ k := Nat.le_of_ble_eq_true h3b
  obtain ⟨hb1, hs⟩ := xgd_some hs
  have hb2 : t = 1 := Nat.eq_of_beq_eq_true hb1
  subst hb2
  obtain ⟨hj, hs⟩ := xgp_some hs
  obtain ⟨rfl, rfl, rfl, rfl, rfl, rfl, rfl⟩ := xgo_some hs
  obtain ⟨hn, he⟩ := xarr hH hk h3
  refine va_zast hx hb hcx.1 hH.2.2.1 xws_D (xS_self hS) (k - 3) 1 he rfl hj hdg (fun H1 locs1 g1 g2 g3 => xsz fun hle => ?_)
  obtain ⟨y1, y2⟩ := xstore (c1 := .inl (1, ln, .inl (upd f j.toNatClampNeg (vp_nar .boolean x)))) hH hS hz h3 hn g1 g3 hle
  exact kk H1 locs1 lsA (hro.put h3) y1 y2 hl hz
theorem xs_castore (X : xPre p R s m args meth c H locs cells slots D bs tc i d ls h n lsA kc ks) (hdg : decode (xMt i).2.1 pc = .ok (.castore, len)) (hci : xchi i pc (.castore, len, r1, r2, v0, ps) = true) (hs : xstp d (.castore, len, r1, r2, v0, ps) pc ls st h n = some (pc1, ls1, st1, h1, n1, kc, ks))
    (kk : xKk p l e0 R s m args below meth c cells slots Q D bs tc i pc1 ls1 st1 h1 n1 kc ks) : W p l e0 R s m args below meth c H locs cells slots Q (F0 m pc lsA (st.map (xvm bs))) := by
  obtain ⟨⟨hx, hb, hml, hown, hts, hin, hcx, hbs⟩, hro, hH, hS, hl, ⟨hd1, hd2⟩, hc, hk2, hz⟩ := X
  have hlen : len = 1 := Nat.eq_of_beq_eq_true hci
  subst hlen
  obtain ⟨x, r, rfl, hs⟩ := xpI_some hs
  obtain ⟨j, r, rfl, hs⟩ := xpI_some hs
  obtain ⟨k, r, rfl, hs⟩ := xpR_some hs
  obtain ⟨t, ln, f, hk, hs⟩ := xcI_some hs
  obtain ⟨h3b, hs⟩ := xgd_some hs
  have h3 : 3 ≤ k := Nat.le_of_ble_eq_true h3b
  obtain ⟨hb1, hs⟩ := xgd_some hs
  have hb2 : t = 2 := Nat.eq_of_beq_eq_true hb1
  subst hb2
  obtain ⟨hj, hs⟩ := xgp_some hs
  obtain ⟨rfl, rfl, rfl, rfl, rfl, rfl, rfl⟩ := xgo_some hs
  obtain ⟨hn, he⟩ := xarr hH hk h3
  refine va_cast hx hb hcx.1 hH.2.2.1 xws_D (xS_self hS) (k - 3) 2 he rfl hj hdg (fun H1 locs1 g1 g2 g3 => xsz fun hle => ?_)
  obtain ⟨y1, y2⟩ := xstore (c1 := .inl (2, ln, .inl (upd f j.toNatClampNeg (vp_nar .char x)))) hH hS hz h3 hn g1 g3 hle
  exact kk H1 locs1 lsA (hro.put h3) y1 y2 hl hz
theorem xs_aaload (X : xPre p R s m args meth c H locs cells slots D bs tc i d ls h n lsA kc ks) (hdg : decode (xMt i).2.1 pc = .ok (.aaload, len)) (hci : xchi i pc (.aaload, len, r1, r2, v0, ps) = true) (hs : xstp d (.aaload, len, r1, r2, v0, ps) pc ls st h n = some (pc1, ls1, st1, h1, n1, kc, ks))
    (kk : xKk p l e0 R s m args below meth c cells slots Q D bs tc i pc1 ls1 st1 h1 n1 kc ks) : W p l e0 R s m args below meth c H locs cells slots Q (F0 m pc lsA (st.map (xvm bs))) := by
  obtain ⟨⟨hx, hb, hml, hown, hts, hin, hcx, hbs⟩, hro, hH, hS, hl, ⟨hd1, hd2⟩, hc, hk2, hz⟩ := X
  have hlen : len = 1 := Nat.eq_of_beq_eq_true hci
  subst hlen
  obtain ⟨j, r, rfl, hs⟩ := xpI_some hs
  obtain ⟨k, r, rfl, hs⟩ := xpR_some hs
  obtain ⟨t, ln, f, hk, hs⟩ := xcQ_some hs
  obtain ⟨hb1, hs⟩ := xgd_some hs
  obtain ⟨hj, hs⟩ := xgp_some hs
  obtain ⟨q, hq, hs⟩ := xgO_some hs
  obtain ⟨rfl, rfl, rfl, rfl, rfl, rfl, rfl⟩ := xgo_some hs
  obtain ⟨h3, hn, he⟩ := xarq hro hH hk
  have k1 := kk H locs lsA hro hH hS hl hz
  have e1 : va_rf ((f j.toNatClampNeg).map (xad bs)) = .ref (xad bs q) := by rw [hq]; rfl
  rcases (Bool.or_eq_true _ _ ▸ hb1 : _ ∨ _) with hb2 | hb2
  · have hb3 : t = 3 := Nat.eq_of_beq_eq_true hb2
    subst hb3
    exact va_aldq (C := "BraidHorns$Track") hx hb hcx.1 hH.2.2.1 (k - 3) 3 he rfl hj hdg (by rw [e1]; exact k1)
  · have hb3 : t = 4 := Nat.eq_of_beq_eq_true hb2
    subst hb3
    exact va_aldq (C := "BraidHorns$Carrier") hx hb hcx.1 hH.2.2.1 (k - 3) 4 he rfl hj hdg (by rw [e1]; exact k1)
theorem xs_aastore (X : xPre p R s m args meth c H locs cells slots D bs tc i d ls h n lsA kc ks) (hdg : decode (xMt i).2.1 pc = .ok (.aastore, len)) (hci : xchi i pc (.aastore, len, r1, r2, v0, ps) = true) (hs : xstp d (.aastore, len, r1, r2, v0, ps) pc ls st h n = some (pc1, ls1, st1, h1, n1, kc, ks))
    (kk : xKk p l e0 R s m args below meth c cells slots Q D bs tc i pc1 ls1 st1 h1 n1 kc ks) : W p l e0 R s m args below meth c H locs cells slots Q (F0 m pc lsA (st.map (xvm bs))) := by
  obtain ⟨⟨hx, hb, hml, hown, hts, hin, hcx, hbs⟩, hro, hH, hS, hl, ⟨hd1, hd2⟩, hc, hk2, hz⟩ := X
  have hlen : len = 1 := Nat.eq_of_beq_eq_true hci
  subst hlen
  obtain ⟨v, r, rfl, hs⟩ := xpR_some hs
  obtain ⟨j, r, rfl, hs⟩ := xpI_some hs
  obtain ⟨k, r, rfl, hs⟩ := xpR_some hs
  obtain ⟨t, ln, f, hk, hs⟩ := xcQ_some hs
  obtain ⟨ci, fs, hv, hs⟩ := xcO_some hs
  obtain ⟨hb1, hs⟩ := xgd_some hs
  obtain ⟨hj, hs⟩ := xgp_some hs
  obtain ⟨rfl, rfl, rfl, rfl, rfl, rfl, rfl⟩ := xgo_some hs
  obtain ⟨h3, hn, he⟩ := xarq hro hH hk
  have hup : (fun q => (va_up f j.toNatClampNeg (some v) q).map (xad bs)) = va_up (fun q => (f q).map (xad bs)) j.toNatClampNeg (some (xad bs v)) := by
    funext q
    simp only [va_up]
    split <;> rfl
  have hkk : ∀ (H1 : Heap) (locs1 : List Loc), va_P D xcl ((xws bs tc h n).set (k - 3) (xad bs k, .inl (tc t, ln, .inr (.inr (.inr (.inr (va_up (fun q => (f q).map (xad bs)) j.toNatClampNeg (some (xad bs v)))))))) ) H1 → va_D (xA bs) ((xws bs tc h n).set (k - 3) (xad bs k, .inl (tc t, ln, .inr (.inr (.inr (.inr (va_up (fun q => (f q).map (xad bs)) j.toNatClampNeg (some (xad bs v)))))))) ) → va_S (xA bs) H H1 locs1 → W p l e0 R s m args below meth c H1 locs1 cells slots Q (F0 m (pc + 1) lsA (r.map (xvm bs))) := by
    intro H1 locs1 g1 g2 g3
    refine xsz fun hle => ?_
    rw [← hup] at g1
    obtain ⟨y1, y2⟩ := xstore (c1 := .inl (t, ln, .inr (va_up f j.toNatClampNeg (some v)))) hH hS hz h3 hn g1 g3 hle
    exact kk H1 locs1 lsA (hro.put h3) y1 y2 hl hz
  rcases (Bool.or_eq_true _ _ ▸ hb1 : _ ∨ _) with hb2 | hb2
  · obtain ⟨q1, q2⟩ := (Bool.and_eq_true _ _ ▸ hb2 : _ ∧ _)
    have e1 : t = 3 := Nat.eq_of_beq_eq_true q1
    have e2 : ci = 2 := Nat.eq_of_beq_eq_true q2
    subst e1; subst e2
    obtain ⟨v3, vn, ve⟩ := xobj hro hH hv (by omega)
    exact va_astq (r := (RX3, TX3, 9)) hx hb hcx.1 hH.2.2.1 xws_D (xS_self hS) (k - 3) 3 (v - 3) 2 he rfl ve rfl hj hdg hkk
  · obtain ⟨q1, q2⟩ := (Bool.and_eq_true _ _ ▸ hb2 : _ ∧ _)
    have e1 : t = 4 := Nat.eq_of_beq_eq_true q1
    have e2 : ci = 0 := Nat.eq_of_beq_eq_true q2
    subst e1; subst e2
    obtain ⟨v3, vn, ve⟩ := xobj hro hH hv (by omega)
    exact va_astq (r := (RX0, TX0, 7)) hx hb hcx.1 hH.2.2.1 xws_D (xS_self hS) (k - 3) 4 (v - 3) 0 he rfl ve rfl hj hdg hkk
theorem xs_arraylength (X : xPre p R s m args meth c H locs cells slots D bs tc i d ls h n lsA kc ks) (hdg : decode (xMt i).2.1 pc = .ok (.arraylength, len)) (hci : xchi i pc (.arraylength, len, r1, r2, v0, ps) = true) (hs : xstp d (.arraylength, len, r1, r2, v0, ps) pc ls st h n = some (pc1, ls1, st1, h1, n1, kc, ks))
    (kk : xKk p l e0 R s m args below meth c cells slots Q D bs tc i pc1 ls1 st1 h1 n1 kc ks) : W p l e0 R s m args below meth c H locs cells slots Q (F0 m pc lsA (st.map (xvm bs))) := by
  obtain ⟨⟨hx, hb, hml, hown, hts, hin, hcx, hbs⟩, hro, hH, hS, hl, ⟨hd1, hd2⟩, hc, hk2, hz⟩ := X
  have hlen : len = 1 := Nat.eq_of_beq_eq_true hci
  subst hlen
  obtain ⟨k, r, rfl, hs⟩ := xpR_some hs
  obtain ⟨t, ln, f, hk, hs⟩ := xcN_some hs
  obtain ⟨ht0, hs⟩ := xgd_some hs
  have ht : t ≤ 4 := Nat.le_of_ble_eq_true ht0
  obtain ⟨rfl, rfl, rfl, rfl, rfl, rfl, rfl⟩ := xgo_some hs
  rcases Nat.lt_or_ge k 3 with hlt | h3
  · obtain ⟨len2, f2, e1, e2, e3⟩ := hro k hlt
    rw [hk] at e1
    injection e1 with e1
    injection e1 with _ e1
    injection e1 with ea eb
    subst ea
    have ea : xad bs k = bs k := if_pos hlt
    show W p l e0 R s m args below meth c H locs cells slots Q (F0 m pc lsA (.ref (xad bs k) :: r.map (xvm bs)))
    rw [ea]
    exact va_slen hx hb e2 (Nat.lt_of_lt_of_le e3 hbs) (Nat.not_le.mpr e3) hS hdg (kk H locs lsA hro hH hS hl hz)
  · obtain ⟨q, hq⟩ : ∃ q, (xtys tc)[t]? = some (tc t, q) := by
      match t, ht with
      | 0, _ => exact ⟨_, rfl⟩
      | 1, _ => exact ⟨_, rfl⟩
      | 2, _ => exact ⟨_, rfl⟩
      | 3, _ => exact ⟨_, rfl⟩
      | 4, _ => exact ⟨_, rfl⟩
    rcases f with f | f
    · obtain ⟨hn, he⟩ := xarr hH hk h3
      exact va_alen hx hb hcx.1 hH.2.2.1 (k - 3) t he hq rfl hdg (kk H locs lsA hro hH hS hl hz)
    · obtain ⟨h3, hn, he⟩ := xarq hro hH hk
      exact va_alen hx hb hcx.1 hH.2.2.1 (k - 3) t he hq rfl hdg (kk H locs lsA hro hH hS hl hz)
theorem xs_new (q : Nat) (X : xPre p R s m args meth c H locs cells slots D bs tc i d ls h n lsA kc ks) (hdg : decode (xMt i).2.1 pc = .ok (.new q, len)) (hci : xchi i pc (.new q, len, r1, r2, v0, ps) = true) (hs : xstp d (.new q, len, r1, r2, v0, ps) pc ls st h n = some (pc1, ls1, st1, h1, n1, kc, ks))
    (kk : xKk p l e0 R s m args below meth c cells slots Q D bs tc i pc1 ls1 st1 h1 n1 kc ks) : W p l e0 R s m args below meth c H locs cells slots Q (F0 m pc lsA (st.map (xvm bs))) := by
  obtain ⟨⟨hx, hb, hml, hown, hts, hin, hcx, hbs⟩, hro, hH, hS, hl, ⟨hd1, hd2⟩, hc, hk2, hz⟩ := X
  have hci0 := (Bool.and_eq_true _ _ ▸ hci : _ ∧ _)
  obtain ⟨hlen0, hci2⟩ := hci0
  have hlen : len = 3 := Nat.eq_of_beq_eq_true hlen0
  subst hlen
  split at hci2
  · next C T N hcl =>
    obtain ⟨g1, g2⟩ := (Bool.and_eq_true _ _ ▸ hci2 : _ ∧ _)
    obtain ⟨g2, g3⟩ := (Bool.and_eq_true _ _ ▸ g2 : _ ∧ _)
    obtain ⟨w1, w2, w3, w4, w5, w6, w7⟩ := xcl_ok hcl
    injection hs with hs
    injection hs with a1 hs
    injection hs with a2 hs
    injection hs with a3 hs
    injection hs with a4 hs
    injection hs with a5 hs
    injection hs with a6 a7
    subst a1; subst a2; subst a3; subst a4; subst a5; subst a6
    have a8 : N = ks := by rw [← w7]; exact a7
    subst a8
    refine va_new (fs := (xdef r1).map (fun v => v)) hx hb hts w1 _ w3 hown (hts _ (xw_mem g1)) (hts _ (xw_mem g2)) (hts _ (xw_mem g3)) hcx.1 hH.2.2.1 xws_D (xS_self hS) (fun q hq => Nat.le_trans (by have e1 := hH.2.2.2; show bs 3 ≤ H.size; omega) hq) hcl w5 hc hk2 hdg (fun q H1 f1 f2 f3 => xsz fun hle => ?_)
    rw [← xdef_vm bs] at f1 f2
    obtain ⟨y1, y2, y3⟩ := xnew (c1 := .inr (r1, xdef r1)) hH hS hz f1 f2 f3 hle
    subst y1
    exact kk H1 locs lsA (hro.put hH.1) y2 y3 hl (by have := hH.1; omega)
  · cases hci2
theorem xs_newarray (q : ArrayType) (X : xPre p R s m args meth c H locs cells slots D bs tc i d ls h n lsA kc ks) (hdg : decode (xMt i).2.1 pc = .ok (.newarray q, len)) (hci : xchi i pc (.newarray q, len, r1, r2, v0, ps) = true) (hs : xstp d (.newarray q, len, r1, r2, v0, ps) pc ls st h n = some (pc1, ls1, st1, h1, n1, kc, ks))
    (kk : xKk p l e0 R s m args below meth c cells slots Q D bs tc i pc1 ls1 st1 h1 n1 kc ks) : W p l e0 R s m args below meth c H locs cells slots Q (F0 m pc lsA (st.map (xvm bs))) := by
  obtain ⟨⟨hx, hb, hml, hown, hts, hin, hcx, hbs⟩, hro, hH, hS, hl, ⟨hd1, hd2⟩, hc, hk2, hz⟩ := X
  have hci0 := (Bool.and_eq_true _ _ ▸ hci : _ ∧ _)
  obtain ⟨hlen0, hci2⟩ := hci0
  have hlen : len = 2 := Nat.eq_of_beq_eq_true hlen0
  subst hlen
  obtain ⟨x, r, rfl, hs⟩ := xpI_some hs
  obtain ⟨hx0, hs⟩ := xgp_some hs
  obtain ⟨hle0, hs⟩ := xgd_some hs
  have hle1 : x.toNatClampNeg ≤ 65536 := Nat.le_of_ble_eq_true hle0
  injection hs with hs
  injection hs with a1 hs
  injection hs with a2 hs
  injection hs with a3 hs
  injection hs with a4 hs
  injection hs with a5 hs
  injection hs with a6 a7
  subst a1; subst a2; subst a3; subst a4; subst a5; subst a6; subst a7
  obtain ⟨hg1, hg2⟩ := (Bool.and_eq_true _ _ ▸ hci2 : _ ∧ _)
  cases q
  case int =>
    have e1 : r1 = 0 := Nat.eq_of_beq_eq_true hg2
    subst e1
    refine va_newa (atype := .int) (a0 := (x.toNatClampNeg, .inl (fun _ => 0))) hx hb (hts _ (xw_mem hg1)) rfl hcx.1 hH.2.2.1 xws_D (xS_self hS) (fun q hq => Nat.le_trans (by have e1 := hH.2.2.2; show bs 3 ≤ H.size; omega) hq) (fun cA => rfl) hx0 rfl (by show x.toNatClampNeg * 4 ≤ 536870912; omega) hc hk2 hdg (fun q cA H1 f0 f1 f2 f3 => xsz fun hle => ?_)
    have hcA : cA = tc 0 := by
      have g1 := (f0.2 5 (cA, .int) rfl).2
      have g2 := (hcx.1.2 0 (tc 0, .int) rfl).2
      exact Option.some.inj (g1.symm.trans g2)
    subst hcA
    obtain ⟨y1, y2, y3⟩ := xnew (c1 := .inl (0, x.toNatClampNeg, .inl (fun _ => 0))) hH hS hz f1 f2 f3 hle
    subst y1
    exact kk H1 locs lsA (hro.put hH.1) y2 y3 hl (by have := hH.1; omega)
  case boolean =>
    have e1 : r1 = 1 := Nat.eq_of_beq_eq_true hg2
    subst e1
    refine va_newa (atype := .boolean) (a0 := (x.toNatClampNeg, .inl (fun _ => 0))) hx hb (hts _ (xw_mem hg1)) rfl hcx.1 hH.2.2.1 xws_D (xS_self hS) (fun q hq => Nat.le_trans (by have e1 := hH.2.2.2; show bs 3 ≤ H.size; omega) hq) (fun cA => rfl) hx0 rfl (by show x.toNatClampNeg * 1 ≤ 536870912; omega) hc hk2 hdg (fun q cA H1 f0 f1 f2 f3 => xsz fun hle => ?_)
    have hcA : cA = tc 1 := by
      have g1 := (f0.2 5 (cA, .boolean) rfl).2
      have g2 := (hcx.1.2 1 (tc 1, .boolean) rfl).2
      exact Option.some.inj (g1.symm.trans g2)
    subst hcA
    obtain ⟨y1, y2, y3⟩ := xnew (c1 := .inl (1, x.toNatClampNeg, .inl (fun _ => 0))) hH hS hz f1 f2 f3 hle
    subst y1
    exact kk H1 locs lsA (hro.put hH.1) y2 y3 hl (by have := hH.1; omega)
  case char =>
    have e1 : r1 = 2 := Nat.eq_of_beq_eq_true hg2
    subst e1
    refine va_newa (atype := .char) (a0 := (x.toNatClampNeg, .inl (fun _ => 0))) hx hb (hts _ (xw_mem hg1)) rfl hcx.1 hH.2.2.1 xws_D (xS_self hS) (fun q hq => Nat.le_trans (by have e1 := hH.2.2.2; show bs 3 ≤ H.size; omega) hq) (fun cA => rfl) hx0 rfl (by show x.toNatClampNeg * 2 ≤ 536870912; omega) hc hk2 hdg (fun q cA H1 f0 f1 f2 f3 => xsz fun hle => ?_)
    have hcA : cA = tc 2 := by
      have g1 := (f0.2 5 (cA, .char) rfl).2
      have g2 := (hcx.1.2 2 (tc 2, .char) rfl).2
      exact Option.some.inj (g1.symm.trans g2)
    subst hcA
    obtain ⟨y1, y2, y3⟩ := xnew (c1 := .inl (2, x.toNatClampNeg, .inl (fun _ => 0))) hH hS hz f1 f2 f3 hle
    subst y1
    exact kk H1 locs lsA (hro.put hH.1) y2 y3 hl (by have := hH.1; omega)
  all_goals cases hg2
theorem xs_anewarray (q : Nat) (X : xPre p R s m args meth c H locs cells slots D bs tc i d ls h n lsA kc ks) (hdg : decode (xMt i).2.1 pc = .ok (.anewarray q, len)) (hci : xchi i pc (.anewarray q, len, r1, r2, v0, ps) = true) (hs : xstp d (.anewarray q, len, r1, r2, v0, ps) pc ls st h n = some (pc1, ls1, st1, h1, n1, kc, ks))
    (kk : xKk p l e0 R s m args below meth c cells slots Q D bs tc i pc1 ls1 st1 h1 n1 kc ks) : W p l e0 R s m args below meth c H locs cells slots Q (F0 m pc lsA (st.map (xvm bs))) := by
  obtain ⟨⟨hx, hb, hml, hown, hts, hin, hcx, hbs⟩, hro, hH, hS, hl, ⟨hd1, hd2⟩, hc, hk2, hz⟩ := X
  have hci0 := (Bool.and_eq_true _ _ ▸ hci : _ ∧ _)
  obtain ⟨hlen0, hci2⟩ := hci0
  have hlen : len = 3 := Nat.eq_of_beq_eq_true hlen0
  subst hlen
  obtain ⟨x, r, rfl, hs⟩ := xpI_some hs
  obtain ⟨hx0, hs⟩ := xgp_some hs
  obtain ⟨hle0, hs⟩ := xgd_some hs
  have hle1 : x.toNatClampNeg ≤ 65536 := Nat.le_of_ble_eq_true hle0
  injection hs with hs
  injection hs with a1 hs
  injection hs with a2 hs
  injection hs with a3 hs
  injection hs with a4 hs
  injection hs with a5 hs
  injection hs with a6 a7
  subst a1; subst a2; subst a3; subst a4; subst a5; subst a6; subst a7
  rcases (Bool.or_eq_true _ _ ▸ hci2 : _ ∨ _) with hg | hg
  · obtain ⟨hg1, hg2⟩ := (Bool.and_eq_true _ _ ▸ hg : _ ∧ _)
    have e1 : r1 = 3 := Nat.eq_of_beq_eq_true hg1
    subst e1
    refine va_newq (C := "BraidHorns$Track") hx hb hown (hts _ (xw_mem hg2)) hcx.2.2.2.1 hcx.1 hH.2.2.1 xws_D (xS_self hS) (fun q hq => Nat.le_trans (by have e1 := hH.2.2.2; show bs 3 ≤ H.size; omega) hq) hx0 rfl (by omega) hc hk2 hdg (fun q cA H1 f0 f1 f2 f3 => xsz fun hle => ?_)
    have hcA : cA = tc 3 := by
      obtain ⟨_, _, _, _, _, g1⟩ := (f0.2 5 (cA, .object "BraidHorns$Track") rfl).2
      obtain ⟨_, _, _, _, _, g2⟩ := (hcx.1.2 3 (tc 3, .object "BraidHorns$Track") rfl).2
      exact Option.some.inj (g1.symm.trans g2)
    subst hcA
    obtain ⟨y1, y2, y3⟩ := xnew (c1 := .inl (3, x.toNatClampNeg, .inr (fun _ => none))) hH hS hz f1 f2 f3 hle
    subst y1
    exact kk H1 locs lsA (hro.put hH.1) y2 y3 hl (by have := hH.1; omega)
  · obtain ⟨hg1, hg2⟩ := (Bool.and_eq_true _ _ ▸ hg : _ ∧ _)
    have e1 : r1 = 4 := Nat.eq_of_beq_eq_true hg1
    subst e1
    refine va_newq (C := "BraidHorns$Carrier") hx hb hown (hts _ (xw_mem hg2)) hcx.2.2.2.2.1 hcx.1 hH.2.2.1 xws_D (xS_self hS) (fun q hq => Nat.le_trans (by have e1 := hH.2.2.2; show bs 3 ≤ H.size; omega) hq) hx0 rfl (by omega) hc hk2 hdg (fun q cA H1 f0 f1 f2 f3 => xsz fun hle => ?_)
    have hcA : cA = tc 4 := by
      obtain ⟨_, _, _, _, _, g1⟩ := (f0.2 5 (cA, .object "BraidHorns$Carrier") rfl).2
      obtain ⟨_, _, _, _, _, g2⟩ := (hcx.1.2 4 (tc 4, .object "BraidHorns$Carrier") rfl).2
      exact Option.some.inj (g1.symm.trans g2)
    subst hcA
    obtain ⟨y1, y2, y3⟩ := xnew (c1 := .inl (4, x.toNatClampNeg, .inr (fun _ => none))) hH hS hz f1 f2 f3 hle
    subst y1
    exact kk H1 locs lsA (hro.put hH.1) y2 y3 hl (by have := hH.1; omega)
theorem xs_invokespecial (q : Nat) (X : xPre p R s m args meth c H locs cells slots D bs tc i d ls h n lsA kc ks) (hdg : decode (xMt i).2.1 pc = .ok (.invokespecial q, len)) (hci : xchi i pc (.invokespecial q, len, r1, r2, v0, ps) = true) (hs : xstp d (.invokespecial q, len, r1, r2, v0, ps) pc ls st h n = some (pc1, ls1, st1, h1, n1, kc, ks))
    (kk : xKk p l e0 R s m args below meth c cells slots Q D bs tc i pc1 ls1 st1 h1 n1 kc ks) : W p l e0 R s m args below meth c H locs cells slots Q (F0 m pc lsA (st.map (xvm bs))) := by
  obtain ⟨⟨hx, hb, hml, hown, hts, hin, hcx, hbs⟩, hro, hH, hS, hl, ⟨hd1, hd2⟩, hc, hk2, hz⟩ := X
  have hci0 := (Bool.and_eq_true _ _ ▸ hci : _ ∧ _)
  obtain ⟨hlen0, hci2⟩ := hci0
  have hlen : len = 3 := Nat.eq_of_beq_eq_true hlen0
  subst hlen
  obtain ⟨hb1, hs9⟩ := xgd_some hs
  have hb2 : r1 = 1000 := Nat.eq_of_beq_eq_true hb1
  clear hs hb1
  subst hb2
  obtain ⟨k, r, rfl, hs⟩ := xpR_some hs9
  obtain ⟨hw8, hs⟩ := xgd_some hs
  obtain ⟨hd0, hs⟩ := xgd_some hs
  have hw9 : xcw r ≤ 8 := Nat.le_of_ble_eq_true hw8
  have hd9 : 1 ≤ d := Nat.le_of_ble_eq_true hd0
  obtain ⟨rfl, rfl, rfl, rfl, rfl, rfl, rfl⟩ := xgo_some hs
  have hci3 : (xw (ps.getD 0 0) (.methodLink (xMt i).1.cls q objectInit) && (xw (ps.getD 1 0) (.instanceMethod objectInit) && xw (ps.getD 2 0) (.code objectInit ⟨#[0xb1]⟩ 1 none))) = true := hci2
  obtain ⟨g1, g2⟩ := (Bool.and_eq_true _ _ ▸ hci3 : _ ∧ _)
  obtain ⟨g2, g3⟩ := (Bool.and_eq_true _ _ ▸ g2 : _ ∧ _)
  refine W.objInit (a := xad bs k) (rest := r.map (xvm bs)) hx hb hown (hts _ (xw_mem g1)) (hts _ (xw_mem g2)) (hts _ (xw_mem g3)) rfl (by rw [hml]; exact hl.1) rfl hdg (by omega) (by rw [xcw_map]; show 2 * 0 + _ + 12 ≤ _; omega) ?_
  exact kk H locs lsA hro hH hS hl hz
theorem xs_invokestatic (q : Nat) (X : xPre p R s m args meth c H locs cells slots D bs tc i d ls h n lsA kc ks) (hdg : decode (xMt i).2.1 pc = .ok (.invokestatic q, len)) (hci : xchi i pc (.invokestatic q, len, r1, r2, v0, ps) = true) (hs : xstp d (.invokestatic q, len, r1, r2, v0, ps) pc ls st h n = some (pc1, ls1, st1, h1, n1, kc, ks))
    (kk : xKk p l e0 R s m args below meth c cells slots Q D bs tc i pc1 ls1 st1 h1 n1 kc ks) : W p l e0 R s m args below meth c H locs cells slots Q (F0 m pc lsA (st.map (xvm bs))) := by
  obtain ⟨⟨hx, hb, hml, hown, hts, hin, hcx, hbs⟩, hro, hH, hS, hl, ⟨hd1, hd2⟩, hc, hk2, hz⟩ := X
  have hci0 := (Bool.and_eq_true _ _ ▸ hci : _ ∧ _)
  obtain ⟨hlen0, hci2⟩ := hci0
  have hlen : len = 3 := Nat.eq_of_beq_eq_true hlen0
  subst hlen
  cases hm : Nat.beq r1 1002
  case true =>
    have hs2 : (cond (Nat.beq r1 1002) (xpI st fun y r => xpI r fun x r => xgd (Nat.ble (xcw r) 8 && Nat.ble 1 d) (xgo (pc + 3) ls (.int (if y < x then y else x) :: r) h n)) _ : Option xRs) = some (pc1, ls1, st1, h1, n1, kc, ks) := hs
    rw [hm] at hs2
    clear hs
    have hm2 : r1 = 1002 := Nat.eq_of_beq_eq_true hm
    clear hm
    subst hm2
    obtain ⟨y, r, rfl, hs⟩ := xpI_some hs2
    clear hs2
    obtain ⟨x, r, rfl, hs⟩ := xpI_some hs
    obtain ⟨hb1, hs⟩ := xgd_some hs
    obtain ⟨hb2, hb3⟩ := (Bool.and_eq_true _ _ ▸ hb1 : _ ∧ _)
    have hw9 : xcw r ≤ 8 := Nat.le_of_ble_eq_true hb2
    have hd9 : 1 ≤ d := Nat.le_of_ble_eq_true hb3
    obtain ⟨rfl, rfl, rfl, rfl, rfl, rfl, rfl⟩ := xgo_some hs
    have hci3 : (xw (ps.getD 0 0) (.methodLink (xMt i).1.cls q Lib.Math.min.name) && (xw (ps.getD 1 0) (.static Lib.Math.min.name) && (xw (ps.getD 2 0) (.initialized "java/lang/Math") && xw (ps.getD 3 0) (.code Lib.Math.min.name Lib.Math.min.code 2 (some .int))))) = true := hci2
    obtain ⟨g1, g2⟩ := (Bool.and_eq_true _ _ ▸ hci3 : _ ∧ _)
    obtain ⟨g2, g3⟩ := (Bool.and_eq_true _ _ ▸ g2 : _ ∧ _)
    obtain ⟨g3, g4⟩ := (Bool.and_eq_true _ _ ▸ g3 : _ ∧ _)
    exact va_mmin hx hb (by rw [hml]; exact hl.1.symm) hown (hts _ (xw_mem g1)) (hts _ (xw_mem g2)) (hts _ (xw_mem g3)) (hts _ (xw_mem g4)) (by omega) (by rw [xcw_map]; omega) (by omega) (by omega) hdg (kk H locs lsA hro hH hS hl hz)
  case false =>
    have hs2 : (cond (Nat.beq r1 1002) _ (xgd (Nat.beq r1 1001) (xpI st fun m r => xpI r fun dp r => xpR r fun k1 r => xpI r fun sp r => xpR r fun k0 r => xcI (h k0) fun t0 n0 f => xcI (h k1) fun t1 n1 g =>
      xgd (Nat.ble 3 k0 && (Nat.ble 3 k1 && (Nat.beq t0 0 && (Nat.beq t1 0 && (Nat.ble (xcw r) 8 && Nat.ble 1 d))))) (xgp (¬ sp < 0 ∧ ¬ dp < 0 ∧ ¬ m < 0 ∧ sp.toNatClampNeg + m.toNatClampNeg ≤ n0 ∧ dp.toNatClampNeg + m.toNatClampNeg ≤ n1) (xgo (pc + 3) ls r (xup h k1 (.inl (0, n1, .inl (va_cpy f g sp.toNatClampNeg dp.toNatClampNeg m.toNatClampNeg)))) n)))) : Option xRs) = some (pc1, ls1, st1, h1, n1, kc, ks) := hs
    rw [hm] at hs2
    clear hs
    obtain ⟨hb1, hs⟩ := xgd_some hs2
    clear hs2 hm
    have hm2 : r1 = 1001 := Nat.eq_of_beq_eq_true hb1
    clear hb1
    subst hm2
    obtain ⟨x, r, rfl, hsa⟩ := xpI_some hs
    obtain ⟨dp, r, rfl, hsb⟩ := xpI_some hsa
    obtain ⟨k1, r, rfl, hsc⟩ := xpR_some hsb
    obtain ⟨sp, r, rfl, hsd⟩ := xpI_some hsc
    obtain ⟨k0, r, rfl, hse⟩ := xpR_some hsd
    obtain ⟨t0, n0, f, hk0, hsf⟩ := xcI_some hse
    obtain ⟨t1, n9, g, hk1, hsg⟩ := xcI_some hsf
    obtain ⟨hb, hs9⟩ := xgd_some hsg
    clear hs hsa hsb hsc hsd hse hsf hsg
    simp only [Bool.and_eq_true] at hb
    obtain ⟨b1, b2, b3, b4, b5, b6⟩ := hb
    have c1 : 3 ≤ k0 := Nat.le_of_ble_eq_true b1
    have c2 : 3 ≤ k1 := Nat.le_of_ble_eq_true b2
    have c3 : t0 = 0 := Nat.eq_of_beq_eq_true b3
    have c4 : t1 = 0 := Nat.eq_of_beq_eq_true b4
    have c5 : xcw r ≤ 8 := Nat.le_of_ble_eq_true b5
    have c6 : 1 ≤ d := Nat.le_of_ble_eq_true b6
    subst c3; subst c4
    obtain ⟨⟨p1, p2, p3, p4, p5⟩, hs⟩ := xgp_some hs9
    obtain ⟨rfl, rfl, rfl, rfl, rfl, rfl, rfl⟩ := xgo_some hs
    have hci3 : (xw (ps.getD 0 0) (.methodLink (xMt i).1.cls q arraycopyName) && (xw (ps.getD 1 0) (.native arraycopyName) && (xw (ps.getD 2 0) (.static arraycopyName) && xw (ps.getD 3 0) (.initialized "java/lang/System")))) = true := hci2
    obtain ⟨g1, g2⟩ := (Bool.and_eq_true _ _ ▸ hci3 : _ ∧ _)
    obtain ⟨g2, g3⟩ := (Bool.and_eq_true _ _ ▸ g2 : _ ∧ _)
    obtain ⟨g3, g4⟩ := (Bool.and_eq_true _ _ ▸ g3 : _ ∧ _)
    obtain ⟨hn0, he0⟩ := xarr hH hk0 c1
    obtain ⟨hn1, he1⟩ := xarr hH hk1 c2
    refine va_copyi (ty := .int) hx (by assumption) (by rw [hml]; exact hl.1.symm) hown (hts _ (xw_mem g1)) (hts _ (xw_mem g2)) (hts _ (xw_mem g3)) (hts _ (xw_mem g4)) hcx.1 hH.2.2.1 xws_D (xS_self hS) (k0 - 3) (k1 - 3) 0 0 he0 he1 rfl rfl rfl p1 p2 p3 p4 p5 (fun _ _ => rfl) (by omega) (by rw [xcw_map]; show _ + ((5 + 2) + 11) ≤ _; omega) hdg (fun H1 locs1 f1 f2 f3 => xsz fun hle => ?_)
    obtain ⟨y1, y2⟩ := xstore (c1 := .inl (0, n9, .inl (va_cpy f g sp.toNatClampNeg dp.toNatClampNeg x.toNatClampNeg))) hH hS hz c2 hn1 f1 f3 hle
    exact kk H1 locs1 lsA (hro.put c2) y1 y2 hl hz
end XSTEP
end
section
/-! the interpreter's run is the machine's run -/
section XALL
variable {p : Program} {l : Launch} {e0 : Env} {R : Room} {s : State} {m : MethodId} {args : Array Value} {below : List Frame} {meth : Method} {c : Code} {H : Heap} {locs : List Loc} {cells slots : Nat} {Q : State → Prop}
variable {D : va_G} {bs : Nat → Nat} {tc : Nat → ClassId} {i d pc : Nat} {ls : xLs} {st : List Value} {h : xHp} {n pc1 : Nat} {ls1 : xLs} {st1 : List Value} {h1 : xHp} {n1 kc ks : Nat} {lsA : Array Slot}
theorem xstep {e : xEn} (X : xPre p R s m args meth c H locs cells slots D bs tc i d ls h n lsA kc ks) (hck : xchk i pc e = true) (hs : xstp d e pc ls st h n = some (pc1, ls1, st1, h1, n1, kc, ks))
    (kk : xKk p l e0 R s m args below meth c cells slots Q D bs tc i pc1 ls1 st1 h1 n1 kc ks) : W p l e0 R s m args below meth c H locs cells slots Q (F0 m pc lsA (st.map (xvm bs))) := by
  obtain ⟨hdg0, hci⟩ := (Bool.and_eq_true _ _ ▸ hck : _ ∧ _)
  have hdg := of_decide_eq_true hdg0
  clear hck hdg0
  obtain ⟨ins, len, r1, r2, v0, ps⟩ := e
  cases ins
  case iconst w0 => exact xs_iconst w0 X hdg hci hs kk
  case bipush w0 => exact xs_bipush w0 X hdg hci hs kk
  case sipush w0 => exact xs_sipush w0 X hdg hci hs kk
  case ldc w0 => exact xs_ldc w0 X hdg hci hs kk
  case ldc_w w0 => exact xs_ldc_w w0 X hdg hci hs kk
  case ldc2_w w0 => exact xs_ldc2_w w0 X hdg hci hs kk
  case lconst w0 => exact xs_lconst w0 X hdg hci hs kk
  case iload_n w0 => exact xs_iload_n w0 X hdg hci hs kk
  case iload w0 => exact xs_iload w0 X hdg hci hs kk
  case lload_n w0 => exact xs_lload_n w0 X hdg hci hs kk
  case lload w0 => exact xs_lload w0 X hdg hci hs kk
  case aload_n w0 => exact xs_aload_n w0 X hdg hci hs kk
  case aload w0 => exact xs_aload w0 X hdg hci hs kk
  case istore_n w0 => exact xs_istore_n w0 X hdg hci hs kk
  case istore w0 => exact xs_istore w0 X hdg hci hs kk
  case lstore_n w0 => exact xs_lstore_n w0 X hdg hci hs kk
  case lstore w0 => exact xs_lstore w0 X hdg hci hs kk
  case astore_n w0 => exact xs_astore_n w0 X hdg hci hs kk
  case astore w0 => exact xs_astore w0 X hdg hci hs kk
  case iinc w0 w1 => exact xs_iinc w0 w1 X hdg hci hs kk
  case iadd => exact xs_iadd  X hdg hci hs kk
  case isub => exact xs_isub  X hdg hci hs kk
  case imul => exact xs_imul  X hdg hci hs kk
  case iand => exact xs_iand  X hdg hci hs kk
  case ior => exact xs_ior  X hdg hci hs kk
  case ishl => exact xs_ishl  X hdg hci hs kk
  case iushr => exact xs_iushr  X hdg hci hs kk
  case idiv => exact xs_idiv  X hdg hci hs kk
  case irem => exact xs_irem  X hdg hci hs kk
  case lsub => exact xs_lsub  X hdg hci hs kk
  case land => exact xs_land  X hdg hci hs kk
  case lor => exact xs_lor  X hdg hci hs kk
  case lcmp => exact xs_lcmp  X hdg hci hs kk
  case lshl => exact xs_lshl  X hdg hci hs kk
  case lushr => exact xs_lushr  X hdg hci hs kk
  case i2l => exact xs_i2l  X hdg hci hs kk
  case l2i => exact xs_l2i  X hdg hci hs kk
  case i2c => exact xs_i2c  X hdg hci hs kk
  case dup => exact xs_dup  X hdg hci hs kk
  case pop => exact xs_pop  X hdg hci hs kk
  case dup2 => exact xs_dup2  X hdg hci hs kk
  case goto w0 => exact xs_goto w0 X hdg hci hs kk
  case tableswitch w0 w1 w2 w3 => exact xs_tableswitch w0 w1 w2 w3 X hdg hci hs kk
  case lookupswitch w0 w1 => exact xs_lookupswitch w0 w1 X hdg hci hs kk
  case getfield w0 => exact xs_getfield w0 X hdg hci hs kk
  case putfield w0 => exact xs_putfield w0 X hdg hci hs kk
  case getstatic w0 => exact xs_getstatic w0 X hdg hci hs kk
  case iaload => exact xs_iaload  X hdg hci hs kk
  case baload => exact xs_baload  X hdg hci hs kk
  case caload => exact xs_caload  X hdg hci hs kk
  case iastore => exact xs_iastore  X hdg hci hs kk
  case bastore => exact xs_bastore  X hdg hci hs kk
  case castore => exact xs_castore  X hdg hci hs kk
  case aaload => exact xs_aaload  X hdg hci hs kk
  case aastore => exact xs_aastore  X hdg hci hs kk
  case arraylength => exact xs_arraylength  X hdg hci hs kk
  case new w0 => exact xs_new w0 X hdg hci hs kk
  case newarray w0 => exact xs_newarray w0 X hdg hci hs kk
  case anewarray w0 => exact xs_anewarray w0 X hdg hci hs kk
  case invokespecial w0 => exact xs_invokespecial w0 X hdg hci hs kk
  case invokestatic w0 => exact xs_invokestatic w0 X hdg hci hs kk
  case if_icmp cn w0 =>
    cases cn
    case eq => exact xs_icmp_eq w0 X hdg hci hs kk
    case ne => exact xs_icmp_ne w0 X hdg hci hs kk
    case lt => exact xs_icmp_lt w0 X hdg hci hs kk
    case ge => exact xs_icmp_ge w0 X hdg hci hs kk
    case gt => exact xs_icmp_gt w0 X hdg hci hs kk
    case le => exact xs_icmp_le w0 X hdg hci hs kk
  case ifCond cn w0 =>
    cases cn
    case eq => exact xs_if_eq w0 X hdg hci hs kk
    case ne => exact xs_if_ne w0 X hdg hci hs kk
    case lt => exact xs_if_lt w0 X hdg hci hs kk
    case ge => exact xs_if_ge w0 X hdg hci hs kk
    case gt => exact xs_if_gt w0 X hdg hci hs kk
    case le => exact xs_if_le w0 X hdg hci hs kk
  all_goals (have hz : (none : Option xRs) = some (pc1, ls1, st1, h1, n1, kc, ks) := hs; cases hz)
/-- how a method ends: its answer, the heap, what stays -/
def xQc (D : va_G) (bs : Nat → Nat) (tc : Nat → ClassId) (v : Option Value) (h1 : xHp) (n1 kc : Nat) : Array Value → State → Outcome → State → Prop := fun _ st oc t => oc = .returned (v.map (xvm bs)) ∧ xHd D bs tc h1 n1 t.heap ∧ xRo bs h1 t t.heap ∧ va_F (xA bs) st t ∧ bs 3 + (n1 - 3) = st.heap.size + kc
def xPc (D : va_G) (bs : Nat → Nat) (tc : Nat → ClassId) (as : List Value) (h : xHp) (n : Nat) : Array Value → State → Prop := va_Pc (as.map (xvm bs)) (fun U => xHd D bs tc h n U.heap ∧ xRo bs h U U.heap ∧ xCx D bs tc U U.heap)
theorem xPc_blind {as : List Value} : FrameBlind (xPc D bs tc as h n) := by
  intro a U g mk hp
  obtain ⟨h1, h2, h3, h4, h5, h6, h7, h8, h9, h10, h11⟩ := hp
  exact ⟨h1, h2, h3.moved (u := U) (U := U.calling g mk a) (Vm.Alike.refl U.vm) (fun _ _ => rfl), h4.moved (u := U) (U := U.calling g mk a) (Vm.Alike.refl U.vm), h5.moved (u := U) (U := U.calling g mk a) (Vm.Alike.refl U.vm), h6.moved (u := U) (U := U.calling g mk a) (Vm.Alike.refl U.vm), h7.moved (u := U) (U := U.calling g mk a) (Vm.Alike.refl U.vm), h8.moved (u := U) (U := U.calling g mk a) (Vm.Alike.refl U.vm), h9.same rfl rfl, h10.same rfl rfl, h11.same rfl rfl⟩
theorem xPc_of {as : List Value} (hro : xRo bs h s s.heap) (hH : xHd D bs tc h n H) (hS : va_S (xA bs) s.heap H locs) (hcx : xCx D bs tc s s.heap) (hbs : bs 3 ≤ s.heap.size) : ∀ U : State, U.heap = H → s.WarmedH U.vm → xPc D bs tc as h n (as.map (xvm bs)).toArray U := by
  intro U hU hW
  have hq : ∀ q, q < bs 3 → U.heap[q]? = s.heap[q]? := fun q hq => by rw [hU]; exact hS.2.1 q (Nat.lt_of_lt_of_le hq hbs) (Nat.not_le.mpr hq)
  exact ⟨rfl, by rw [hU]; exact hH, hro.moved hW.alike hq, hcx.moved hW hq⟩
/-- behind a call -/
theorem xcont {v : Option Value} {a : Array Value} {st0 r : List Value} (hr : va_Run p l e0 R s m args below meth c H locs cells slots kc ks (F0 m pc lsA st0) (r.map (xvm bs)) (xQc D bs tc v h1 n1 kc a) (xA bs)) (hS : va_S (xA bs) s.heap H locs) (hbs : bs 3 ≤ s.heap.size) (hsz : H.size = s.heap.size + cells)
    (kk : ∀ (H1 : Heap) (locs1 : List Loc), xRo bs h1 s s.heap → xHd D bs tc h1 n1 H1 → va_S (xA bs) s.heap H1 locs1 → bs 3 + (n1 - 3) = s.heap.size + (cells + kc) → W p l e0 R s m args below meth c H1 locs1 (cells + kc) (slots + ks) Q (F0 m (pc + 3) lsA ((v.toList ++ r).map (xvm bs)))) : W p l e0 R s m args below meth c H locs cells slots Q (F0 m pc lsA st0) := by
  intro T hT X
  obtain ⟨v9, st₀, t, T', L, h0, X', hL, e1, e2, ⟨hv, hHd, hRo, ⟨hz, hk⟩, hn⟩, st⟩ := hr T hT X
  cases hv
  rw [h0] at hz hk hn
  have hal : s.vm.Alike t.vm := by rw [← e2]; exact X'.warmed.alike
  have hS1 : va_S (xA bs) s.heap T'.heap (locs ++ L) := by
    refine ⟨Nat.le_trans hS.1 (by rw [e1]; exact hz), fun q g1 g2 => by rw [e1, hk q (Nat.lt_of_lt_of_le g1 hS.1) g2]; exact hS.2.1 q g1 g2, fun q hq => ?_⟩
    rcases List.mem_append.mp hq with g | g
    · exact hS.2.2 q g
    · exact hL q g
  have hRo2 : xRo bs h1 s s.heap := hRo.moved hal.symm (fun q hq => by rw [← e1]; exact (hS1.2.1 q (Nat.lt_of_lt_of_le hq hbs) (Nat.not_le.mpr hq)).symm)
  have kk1 := kk T'.heap (locs ++ L) hRo2 (by rw [e1]; exact hHd) hS1 (by omega)
  have hst : ((v.map (xvm bs)).toList ++ r.map (xvm bs)) = (v.toList ++ r).map (xvm bs) := by cases v <;> simp
  obtain ⟨t2, a1, b1⟩ := kk1 T' rfl X'
  refine ⟨t2, st t2 ?_, b1⟩
  rw [hst]
  exact a1
theorem xgood {ws : List Jvm.Cond} (hw : ∀ w ∈ ws, w ∈ xT) : GoodIn xT ws := fun w h => ⟨hw w h, good_of_word (List.mem_filter.mp (hw w h)).2⟩
def xwsj (j : Nat) : List Jvm.Cond := Jvm.Cond.code (xMt j).1 (xMt j).2.1 (xMt j).2.2.1 (xMt j).2.2.2.1 :: xT
theorem xwsj_mem {j : Nat} (hj : j < 154) : ∀ w ∈ xwsj j, w ∈ xT := by
  intro w hw
  rcases List.mem_cons.mp hw with rfl | hw
  · exact List.mem_filter.mpr ⟨List.mem_of_getElem? (xmcode j (by omega)), rfl⟩
  · exact hw
theorem xlen_sl (vs : List Value) : (lg_sl vs).length = xcw vs := by
  induction vs with
  | nil => rfl
  | cons v vs ih =>
    unfold lg_sl xcw
    rw [List.flatMap_cons, List.length_append, List.map_cons, List.sum_cons]
    have ih2 : (List.flatMap (fun v => if v.category = 2 then [Slot.val v, Slot.second] else [Slot.val v]) vs).length = (vs.map fun v => v.category).sum := ih
    rw [ih2]
    rcases lv_cat v with hc | hc <;> rw [hc] <;> rfl
def xrmj (d kc ks : Nat) : Room := { frames := d, cells := kc, slots := ks, locals := 34 * d }
/-- the end of a method's run: what is asked of its return -/
def xEnd (p : Program) (l : Launch) (e0 : Env) (R : Room) (s : State) (m : MethodId) (args : Array Value) (below : List Frame) (meth : Method) (c : Code) (cells slots : Nat) (Q : State → Prop) (D : va_G) (bs : Nat → Nat) (tc : Nat → ClassId) (i : Nat) (q : Nat) (sq : List Value) (v : Option Value) (h1 : xHp) (n1 kc ks : Nat) : Prop :=
  ∀ (e : xEn) (H1 : Heap) (locs1 : List Loc) (lsB : Array Slot), xfind i q = some e → xret i e sq = some v → xRo bs h1 s s.heap → xHd D bs tc h1 n1 H1 → va_S (xA bs) s.heap H1 locs1 → bs 3 + (n1 - 3) = s.heap.size + (cells + kc) → W p l e0 R s m args below meth c H1 locs1 (cells + kc) (slots + ks) Q (F0 m q lsB (sq.map (xvm bs)))
def xSnd (f : Nat) : Prop := ∀ (l : Launch) (D : va_G) (bs : Nat → Nat) (tc : Nat → ClassId) (d i pc : Nat) (ls : xLs) (st : List Value) (h : xHp) (n q : Nat) (sq : List Value) (v : Option Value) (h1 : xHp) (n1 kc ks : Nat), i < 156 → xex f d i pc ls st h n = some (q, sq, v, h1, n1, kc, ks) →
  ∀ (p : Program) (e0 : Env) (R : Room) (s : State) (m : MethodId) (args : Array Value) (below : List Frame) (meth : Method) (c : Code) (H : Heap) (locs : List Loc) (cells slots : Nat) (Q : State → Prop) (lsA : Array Slot), xPre p R s m args meth c H locs cells slots D bs tc i d ls h n lsA kc ks → xEnd p l e0 R s m args below meth c cells slots Q D bs tc i q sq v h1 n1 kc ks →
  W p l e0 R s m args below meth c H locs cells slots Q (F0 m pc lsA (st.map (xvm bs)))
theorem xnok_ok {ty : FieldType} {x : Int32} (h : xnok ty x = true) : narrow ty (.int x) = .int x := by
  cases ty <;> first | rfl | exact of_decide_eq_true h
/-- a run of the interpreter is a contract of the method -/
theorem xmet {f : Nat} (hf : xSnd f) {j : Nat} (hj : j < 154) {as : List Value} {q : Nat} {sq : List Value} {v : Option Value} (hex : xex f d j 0 (lv_args 0 as) [] h n = some (q, sq, v, h1, n1, kc, ks)) (hal : xcw as ≤ (xMt j).2.2.1) :
    Met l (xMt j).1 (xwsj j) (xrmj d kc ks) (xPc D bs tc as h n) (xQc D bs tc v h1 n1 kc) kc ks (xA bs) := by
  have hok := xmok_of hj
  unfold xmok at hok
  simp only [Bool.and_eq_true, decide_eq_true_eq] at hok
  refine Met.ofW (cc := (xMt j).2.1) (maxL := (xMt j).2.2.1) (ret := (xMt j).2.2.2.1) hok.2.2.1 rfl ?_
  intro p e0 s m args below meth c s₁ B hml hv
  obtain ⟨rfl, hH, hro, hcx⟩ := hv
  have hx := B.exec
  have hb := B.bytes
  have hr := B.returns
  have hts0 := atoms_spec (ws := xwsj j) B.pre
  have hts : ∀ w ∈ xT, w.before (as.map (xvm bs)).toArray s = true := fun w hw => hts0 w (List.mem_cons_of_mem _ hw)
  have hown : s.vm.findClass (xMt j).1.cls = some m.cls := findClass_of_methodNamed B.named
  have hlocks := B.notSynchronized
  have hnm : meth.name = (xMt j).1.name := (name_of_methodNamed B.named B.method).1
  have hbs : bs 3 ≤ s.heap.size := by have := hH.2.2.2; omega
  have hl := lv_entry (as.map (xvm bs)) (n := (xMt j).2.2.1) (by rw [xlen_sl]; unfold xcw; rw [xcw_map]; exact hal)
  rw [lg_entry_eq]
  generalize (lg_sl (as.map (xvm bs)) ++ List.replicate ((xMt j).2.2.1 - (lg_sl (as.map (xvm bs))).length) Slot.unset).toArray = lsA at hl ⊢
  rw [xlm_args] at hl
  refine hf l D bs tc d j 0 (lv_args 0 as) [] h n q sq v h1 n1 kc ks (by omega) hex p e0 (xrmj d kc ks) s m (as.map (xvm bs)).toArray below meth c s.heap [] 0 0 _ lsA ⟨⟨hx, hb, hml, hown, hts, fun hi => by rw [hnm]; exact hi, hcx, hbs⟩, hro, hH, va_S.rf, hl, ⟨Nat.le_refl _, Nat.le_refl _⟩, by show 0 + kc ≤ kc; omega, by show 0 + ks ≤ ks; omega, by have := hH.2.2.2; omega⟩ ?_
  intro e H1 locs1 lsB he hret hro1 hH1 hS1 hz1
  have hck := xchk_of (by omega) he
  obtain ⟨hdg0, hci⟩ := (Bool.and_eq_true _ _ ▸ hck : _ ∧ _)
  have hdg := of_decide_eq_true hdg0
  rw [Nat.zero_add] at hz1
  rw [Nat.zero_add, Nat.zero_add]
  have hq : ∀ t : State, t.heap = H1 → s.WarmedH t.vm → xQc D bs tc v h1 n1 kc (as.map (xvm bs)).toArray s (.returned (v.map (xvm bs))) t := by
    intro t ht hW
    refine ⟨rfl, by rw [ht]; exact hH1, hro1.moved hW.alike (fun q hq => by rw [ht]; exact hS1.2.1 q (Nat.lt_of_lt_of_le hq hbs) (Nat.not_le.mpr hq)), hS1.F ht, hz1⟩
  obtain ⟨ins, len, r1, r2, v0, ps⟩ := e
  cases ins
  case ireturn =>
    have hlen : len = 1 := Nat.eq_of_beq_eq_true hci
    subst hlen
    obtain ⟨x, r, rfl, hreta⟩ := xpI_some (show xpI sq _ = some v from hret)
    obtain ⟨hemp, hretb⟩ := xgd_some hreta
    clear hret hreta
    have hr0 : r = [] := List.isEmpty_iff.mp hemp
    subst hr0
    split at hretb
    · next ty hty =>
      obtain ⟨hn, hretc⟩ := xgd_some hretb
      have hv : some (.int x) = v := Option.some.inj hretc
      subst hv
      exact W.zret hx hb (hr.trans hty) (xnok_ok hn) hq hS1.2.2 hdg hlocks
    · cases hretb
  case lreturn =>
    have hlen : len = 1 := Nat.eq_of_beq_eq_true hci
    subst hlen
    obtain ⟨x, r, rfl, hreta⟩ := xpL_some (show xpL sq _ = some v from hret)
    obtain ⟨hemp, hretb⟩ := xgd_some hreta
    clear hret hreta
    have hr0 : r = [] := List.isEmpty_iff.mp hemp
    subst hr0
    split at hretb
    · next hty =>
      have hv : some (.long x) = v := Option.some.inj hretb
      subst hv
      exact W.lret hx hb (hr.trans hty) hq hS1.2.2 hdg hlocks
    · cases hretb
  case return_ =>
    have hlen : len = 1 := Nat.eq_of_beq_eq_true hci
    subst hlen
    obtain ⟨hemp, hretb⟩ := xgd_some (show xgd (List.isEmpty sq) _ = some v from hret)
    clear hret
    have hr0 : sq = [] := List.isEmpty_iff.mp hemp
    subst hr0
    split at hretb
    · next hty =>
      have hv : none = v := Option.some.inj hretb
      subst hv
      exact W.vret hx hb (hr.trans hty) hq hS1.2.2 hdg hlocks
    · cases hretb
  all_goals (have hz : (none : Option (Option Value)) = some v := hret; cases hz)
theorem xtake {k : Nat} {st r : List Value} (hk : k ≤ st.length) (hd : st.drop k = r) : st.map (xvm bs) = ((st.take k).reverse.map (xvm bs)).reverse ++ r.map (xvm bs) := by
  rw [← hd, List.map_reverse, List.reverse_reverse, ← List.map_append, List.take_append_drop]
/-- a call of the interpreter is a call of the machine -/
theorem xcalls {f : Nat} (hf : xSnd f) {e : xEn} {j : Nat} {as r : List Value} {q : Nat} {sq : List Value} {v : Option Value} (X : xPre p R s m args meth c H locs cells slots D bs tc i (d + 1) ls h n lsA kc ks) (hck : xchk i pc e = true) (hkd : xkind e = 1) (hs : xcall e st h = some (j, as, r)) (hex : xex f d j 0 (lv_args 0 as) [] h n = some (q, sq, v, h1, n1, kc, ks))
    (kk : xKk p l e0 R s m args below meth c cells slots Q D bs tc i (pc + 3) ls (v.toList ++ r) h1 n1 kc ks) : W p l e0 R s m args below meth c H locs cells slots Q (F0 m pc lsA (st.map (xvm bs))) := by
  obtain ⟨⟨hx, hb, hml, hown, hts, hin, hcx, hbs⟩, hro, hH, hS, hl, ⟨hd1, hd2⟩, hc, hk2, hz⟩ := X
  obtain ⟨hdg0, hci⟩ := (Bool.and_eq_true _ _ ▸ hck : _ ∧ _)
  have hdg := of_decide_eq_true hdg0
  clear hck hdg0
  have hsz : H.size = s.heap.size + cells := by have := hH.2.2.2; omega
  have hroom : ∀ j, j < 154 → (xrmj d kc ks).frames + 1 ≤ R.frames ∧ 8 + ((xMt j).2.2.1 + 11) + (xrmj d kc ks).locals ≤ R.locals := by
    intro j hj
    have hok := xmok_of hj
    unfold xmok at hok
    simp only [Bool.and_eq_true, decide_eq_true_eq] at hok
    have h15 : (xMt j).2.2.1 ≤ 15 := Nat.le_of_ble_eq_true hok.2.2.2
    refine ⟨hd1, ?_⟩
    show 8 + ((xMt j).2.2.1 + 11) + 34 * d ≤ R.locals
    omega
  have hkk : ∀ (H1 : Heap) (locs1 : List Loc), xRo bs h1 s s.heap → xHd D bs tc h1 n1 H1 → va_S (xA bs) s.heap H1 locs1 → bs 3 + (n1 - 3) = s.heap.size + (cells + kc) → W p l e0 R s m args below meth c H1 locs1 (cells + kc) (slots + ks) Q (F0 m (pc + 3) lsA ((v.toList ++ r).map (xvm bs))) := fun H1 locs1 g1 g2 g3 g4 => kk H1 locs1 lsA g1 g2 g3 hl g4
  obtain ⟨ins, len, r1, r2, v0, ps⟩ := e
  cases ins
  case invokevirtual w0 =>
    obtain ⟨hlen0, hci⟩ := (Bool.and_eq_true _ _ ▸ hci : _ ∧ _)
    have hlen : len = 3 := Nat.eq_of_beq_eq_true hlen0
    subst hlen
    obtain ⟨hj0, hci⟩ := (Bool.and_eq_true _ _ ▸ hci : _ ∧ _)
    have hj : r1 < 154 := Nat.le_of_ble_eq_true hj0
    obtain ⟨hnm, hci⟩ := (Bool.and_eq_true _ _ ▸ hci : _ ∧ _)
    obtain ⟨hcm, hci⟩ := (Bool.and_eq_true _ _ ▸ hci : _ ∧ _)
    obtain ⟨g1, hci⟩ := (Bool.and_eq_true _ _ ▸ hci : _ ∧ _)
    obtain ⟨g2, hci⟩ := (Bool.and_eq_true _ _ ▸ hci : _ ∧ _)
    obtain ⟨g3, g4⟩ := (Bool.and_eq_true _ _ ▸ hci : _ ∧ _)
    obtain ⟨b, r', hdr, hs1⟩ := xpR_some (show xpR (st.drop r2) _ = some _ from hs)
    obtain ⟨ci, fs, hb0, hs2⟩ := xcO_some hs1
    obtain ⟨b1, hs3⟩ := xgd_some hs2
    obtain ⟨b2, hs4⟩ := xgd_some hs3
    obtain ⟨b3, hs5⟩ := xgd_some hs4
    obtain ⟨b4, hs6⟩ := xgd_some hs5
    clear hs hs1 hs2 hs3 hs4 hs5
    injection hs6 with hs7
    injection hs7 with a1 hs8
    injection hs8 with a2 a3
    subst a1; subst a2; subst a3
    have hok := xmok_of hj
    unfold xmok at hok
    simp only [Bool.and_eq_true, decide_eq_true_eq] at hok
    have hM := xmet (l := l) (D := D) (bs := bs) (tc := tc) hf hj hex (Nat.le_of_ble_eq_true b4)
    have hcl0 : (xcl[ci]?).map (fun q => q.1) = some (xMt r1).1.cls := by
      rw [Nat.eq_of_beq_eq_true b3]
      exact of_decide_eq_true hcm
    obtain ⟨⟨C, T, N⟩, hcl, hC⟩ : ∃ q, xcl[ci]? = some q ∧ q.1 = (xMt r1).1.cls := by
      cases hq : xcl[ci]? with
      | none => rw [hq] at hcl0; cases hcl0
      | some q => rw [hq] at hcl0; exact ⟨q, rfl, Option.some.inj hcl0⟩
    obtain ⟨w1, w2, w3, w4, w5, w6, w7⟩ := xcl_ok hcl
    obtain ⟨h3, hn, he⟩ := xobj hro hH hb0 w6
    have hCW := cwV (R := R) (s := s) (args := args) (own := (xMt i).1.cls) (index := w0) (C := (xMt r1).1.cls) (y := (xMt r1).1) (bytes := (xMt r1).2.1) (maxL := (xMt r1).2.2.1) (ret := (xMt r1).2.2.2.1) (ws := xwsj r1) (rm := xrmj d kc ks) (mc := kc) (ms := ks) r2 hts (xgood (by
      intro w hw
      unfold wsV at hw
      rcases List.mem_append.mp hw with hw | hw
      · simp only [List.mem_cons, List.not_mem_nil, or_false] at hw
        rcases hw with rfl | rfl | rfl | rfl
        · exact xw_mem g1
        · exact xw_mem g2
        · exact xw_mem g3
        · exact xw_mem g4
      · exact xwsj_mem hj w hw)) rfl rfl rfl ⟨rfl, hok.1, hok.2.1, of_decide_eq_true hnm⟩ (hroom r1 hj)
    have hst := xtake (bs := bs) (Nat.le_of_ble_eq_true b1) hdr
    have hrc : ∃ cell : Cell, H[xad bs b]? = some cell ∧ cell.vm.isStatics = false ∧ s.vm.findClass (xMt r1).1.cls = some cell.cls := by
      rw [← hC]
      exact va_recv hcx.1 hH.2.2.1 (ci := ci) (q0 := b - 3) hcl he
    refine xcont (va_runV (As := (st.take r2).reverse.map (xvm bs)) (rest := r'.map (xvm bs)) (b := xad bs b) (C := (xMt r1).1.cls) ⟨hx, hb, hml, hown, hts⟩ hM hCW ⟨xPc_blind, hrc, xPc_of (as := .ref b :: (st.take r2).reverse) hro hH hS hcx hbs⟩ rfl (by rw [List.length_map, List.length_reverse, List.length_take]; exact Nat.min_eq_left (Nat.le_of_ble_eq_true b1)) hl.1 hst (lv_room (by rw [xcw_map]; exact Nat.le_of_ble_eq_true b2)) hdg ⟨hc, hk2⟩) hS hbs hsz hkk
  case invokestatic w0 =>
    obtain ⟨hlen0, hci⟩ := (Bool.and_eq_true _ _ ▸ hci : _ ∧ _)
    have hlen : len = 3 := Nat.eq_of_beq_eq_true hlen0
    subst hlen
    cases hm : Nat.ble 1000 r1
    case true =>
      have hz9 : cond (Nat.ble 1000 r1) 2 1 = 1 := hkd
      rw [hm] at hz9
      cases hz9
    case false =>
      have hci9 : cond (Nat.ble 1000 r1) _ (Nat.blt r1 154 && (xnm (xMt r1).1 r2 && (xw (ps.getD 0 0) (.methodLink (xMt i).1.cls w0 (xMt r1).1) && (xw (ps.getD 1 0) (.static (xMt r1).1) && xw (ps.getD 2 0) (.initialized (xMt r1).1.cls))))) = true := hci
      rw [hm] at hci9
      clear hci
      obtain ⟨hj0, hci⟩ := (Bool.and_eq_true _ _ ▸ hci9 : _ ∧ _)
      have hj : r1 < 154 := Nat.le_of_ble_eq_true hj0
      obtain ⟨hnm, hci⟩ := (Bool.and_eq_true _ _ ▸ hci : _ ∧ _)
      obtain ⟨g1, hci⟩ := (Bool.and_eq_true _ _ ▸ hci : _ ∧ _)
      obtain ⟨g2, g3⟩ := (Bool.and_eq_true _ _ ▸ hci : _ ∧ _)
      obtain ⟨b1, hs3⟩ := xgd_some (show xgd (Nat.ble r2 st.length) _ = some _ from hs)
      obtain ⟨b2, hs4⟩ := xgd_some hs3
      obtain ⟨b4, hs6⟩ := xgd_some hs4
      clear hs hs3 hs4
      injection hs6 with hs7
      injection hs7 with a1 hs8
      injection hs8 with a2 a3
      subst a1; subst a2; subst a3
      have hok := xmok_of hj
      unfold xmok at hok
      simp only [Bool.and_eq_true, decide_eq_true_eq] at hok
      have hM := xmet (l := l) (D := D) (bs := bs) (tc := tc) hf hj hex (Nat.le_of_ble_eq_true b4)
      have hCW := va_cwS (R := R) (s := s) (args := args) (own := (xMt i).1.cls) (index := w0) (y := (xMt r1).1) (bytes := (xMt r1).2.1) (maxL := (xMt r1).2.2.1) (ret := (xMt r1).2.2.2.1) (ws := xwsj r1) (rm := xrmj d kc ks) (mc := kc) (ms := ks) r2 hts (xgood (by
        intro w hw
        unfold va_wsS at hw
        rcases List.mem_append.mp hw with hw | hw
        · simp only [List.mem_cons, List.not_mem_nil, or_false] at hw
          rcases hw with rfl | rfl | rfl
          · exact xw_mem g1
          · exact xw_mem g2
          · exact xw_mem g3
        · exact xwsj_mem hj w hw)) rfl rfl rfl ⟨hok.1, hok.2.1, of_decide_eq_true hnm⟩ (hroom r1 hj)
      have hst := xtake (bs := bs) (Nat.le_of_ble_eq_true b1) rfl
      refine xcont (va_runS (As := (st.take r2).reverse.map (xvm bs)) (rest := (st.drop r2).map (xvm bs)) ⟨hx, hb, hml, hown, hts⟩ hM hCW ⟨xPc_blind, xPc_of (as := (st.take r2).reverse) hro hH hS hcx hbs⟩ rfl (by rw [List.length_map, List.length_reverse, List.length_take]; exact Nat.min_eq_left (Nat.le_of_ble_eq_true b1)) hl.1 hst (lv_room (by rw [xcw_map]; exact Nat.le_of_ble_eq_true b2)) hdg ⟨hc, hk2⟩) hS hbs hsz hkk
  case invokespecial w0 =>
    obtain ⟨hlen0, hci⟩ := (Bool.and_eq_true _ _ ▸ hci : _ ∧ _)
    have hlen : len = 3 := Nat.eq_of_beq_eq_true hlen0
    subst hlen
    cases hm : Nat.ble 1000 r1
    case true =>
      have hz9 : cond (Nat.ble 1000 r1) 2 1 = 1 := hkd
      rw [hm] at hz9
      cases hz9
    case false =>
      have hci9 : cond (Nat.ble 1000 r1) _ (Nat.blt r1 154 && (xnm (xMt r1).1 r2 && (decide ((xMt r1).1.name = "<init>") && (decide ((xMt r1).2.2.2.1 = none) && (cond (decide ((xMt i).1.cls = "BraidHorns$Track")) (Nat.beq w0 21 && decide ((xMt r1).1 = ⟨"BraidHorns$Carrier", "<init>", "()V"⟩)) (xw (ps.getD 0 0) (.methodLink (xMt i).1.cls w0 (xMt r1).1)) && (xw (ps.getD 1 0) (.instanceMethod (xMt r1).1) && xw (ps.getD 2 0) (.initialized (xMt r1).1.cls))))))) = true := hci
      rw [hm] at hci9
      clear hci
      obtain ⟨hj0, hci⟩ := (Bool.and_eq_true _ _ ▸ hci9 : _ ∧ _)
      have hj : r1 < 154 := Nat.le_of_ble_eq_true hj0
      obtain ⟨hnm, hci⟩ := (Bool.and_eq_true _ _ ▸ hci : _ ∧ _)
      obtain ⟨hini0, hci⟩ := (Bool.and_eq_true _ _ ▸ hci : _ ∧ _)
      obtain ⟨hnone0, hci⟩ := (Bool.and_eq_true _ _ ▸ hci : _ ∧ _)
      have hini := of_decide_eq_true hini0
      have hnone := of_decide_eq_true hnone0
      obtain ⟨g1, hci⟩ := (Bool.and_eq_true _ _ ▸ hci : _ ∧ _)
      obtain ⟨g2, g3⟩ := (Bool.and_eq_true _ _ ▸ hci : _ ∧ _)
      obtain ⟨b, r', hdr, hs1⟩ := xpR_some (show xpR (st.drop r2) _ = some _ from hs)
      obtain ⟨b1, hs3⟩ := xgd_some hs1
      obtain ⟨b2, hs4⟩ := xgd_some hs3
      obtain ⟨b4, hs6⟩ := xgd_some hs4
      clear hs hs1 hs3 hs4
      injection hs6 with hs7
      injection hs7 with a1 hs8
      injection hs8 with a2 a3
      subst a1; subst a2; subst a3
      have hok := xmok_of hj
      unfold xmok at hok
      simp only [Bool.and_eq_true, decide_eq_true_eq] at hok
      have hM := xmet (l := l) (D := D) (bs := bs) (tc := tc) hf hj hex (Nat.le_of_ble_eq_true b4)
      have hst := xtake (bs := bs) (Nat.le_of_ble_eq_true b1) hdr
      have hws : xwsj r1 = Jvm.Cond.code (xMt r1).1 (xMt r1).2.1 (xMt r1).2.2.1 none :: xT := by unfold xwsj; rw [hnone]
      cases hnest : decide ((xMt i).1.cls = "BraidHorns$Track")
      case false =>
        rw [hnest] at g1
        have hCW := cwI (R := R) (s := s) (args := args) (own := (xMt i).1.cls) (index := w0) (y := (xMt r1).1) (bytes := (xMt r1).2.1) (maxL := (xMt r1).2.2.1) (ws := xwsj r1) (rm := xrmj d kc ks) (mc := kc) (ms := ks) r2 hts (xgood (xwsj_mem hj)) hws rfl rfl (hts _ (xw_mem g3)) (hts _ (xw_mem g1)) (hts _ (xw_mem g2)) hini ⟨hok.1, hok.2.1, of_decide_eq_true hnm⟩ (hroom r1 hj)
        refine xcont (va_runI (As := (st.take r2).reverse.map (xvm bs)) (rest := r'.map (xvm bs)) (b := xad bs b) ⟨hx, hb, hml, hown, hts⟩ hM hCW ⟨xPc_blind, xPc_of (as := .ref b :: (st.take r2).reverse) hro hH hS hcx hbs⟩ rfl (by rw [List.length_map, List.length_reverse, List.length_take]; exact Nat.min_eq_left (Nat.le_of_ble_eq_true b1)) hl.1 hst (lv_room (by rw [xcw_map]; exact Nat.le_of_ble_eq_true b2)) hdg ⟨hc, hk2⟩) hS hbs hsz hkk
      case true =>
        rw [hnest] at g1
        have htr := of_decide_eq_true hnest
        obtain ⟨n1a, n1b⟩ := (Bool.and_eq_true _ _ ▸ g1 : _ ∧ _)
        have e21 : w0 = 21 := Nat.eq_of_beq_eq_true n1a
        have ey := of_decide_eq_true n1b
        subst e21
        rw [htr] at hown
        have hnl : va_Nw (.methodLinkNest "BraidHorns$Track" 21 (xMt r1).1 "BraidHorns") s := by rw [ey]; exact hcx.2.2.2.2.2.2.2
        have hCW := va_cnB (R := R) (s := s) (args := args) (own := "BraidHorns$Track") (index := 21) (host := "BraidHorns") (y := (xMt r1).1) (bytes := (xMt r1).2.1) (maxL := (xMt r1).2.2.1) (ret := none) (ws := xwsj r1) (rm := xrmj d kc ks) (mc := kc) (ms := ks) r2 hts (xgood (xwsj_mem hj)) hws rfl rfl hnl (hts _ (xw_mem g3)) ⟨hok.1, hok.2.1, of_decide_eq_true hnm⟩ (hroom r1 hj)
        refine xcont (va_runIN (As := (st.take r2).reverse.map (xvm bs)) (rest := r'.map (xvm bs)) (b := xad bs b) ⟨hx, hb, hml, hown, hts⟩ hM ⟨hCW, hini, hts _ (xw_mem g2)⟩ ⟨xPc_blind, xPc_of (as := .ref b :: (st.take r2).reverse) hro hH hS hcx hbs⟩ rfl (by rw [List.length_map, List.length_reverse, List.length_take]; exact Nat.min_eq_left (Nat.le_of_ble_eq_true b1)) hl.1 hst (lv_room (by rw [xcw_map]; exact Nat.le_of_ble_eq_true b2)) hdg ⟨hc, hk2⟩) hS hbs hsz hkk
  all_goals (have hz9 : (none : Option (Nat × List Value × List Value)) = some (j, as, r) := hs; cases hz9)
end XALL
theorem xadd_some {kc ks : Nat} {r : Option xOut} {q : Nat} {sq : List Value} {v : Option Value} {h : xHp} {n a b : Nat} (hs : xadd kc ks r = some (q, sq, v, h, n, a, b)) : ∃ a' b', r = some (q, sq, v, h, n, a', b') ∧ a = kc + a' ∧ b = ks + b' := by
  unfold xadd at hs
  split at hs
  · cases hs
    exact ⟨_, _, rfl, rfl, rfl⟩
  · cases hs
theorem xsound : ∀ f : Nat, xSnd f := by
  intro f
  induction f with
  | zero =>
    intro l D bs tc d i pc ls st h n q sq v h1 n1 kc ks hi hex
    cases hex
  | succ f ih =>
    intro l D bs tc d i pc ls st h n q sq v h1 n1 kc ks hi hex p e0 R s m args below meth c H locs cells slots Q lsA X hend
    unfold xex at hex
    cases hfd : xfind i pc with
    | none => rw [hfd] at hex; cases hex
    | some e =>
      rw [hfd] at hex
      have hck := xchk_of hi hfd
      dsimp only at hex
      split at hex
      · -- a return
        split at hex
        · next v9 hret =>
          cases hex
          obtain ⟨hfx, hro, hH, hS, hl, hd, hc, hk2, hz⟩ := X
          exact hend e H locs lsA hfd hret hro hH hS hz
        · cases hex
      · next hkd =>
        split at hex
        · cases hex
        · next j as r hcall =>
          split at hex
          · cases hex
          · next d' =>
            split at hex
            · cases hex
            · next q9 sq9 v9 h9 n9 kc9 ks9 hsub =>
              obtain ⟨ka, kb, hrest, rfl, rfl⟩ := xadd_some hex
              have X0 := X
              obtain ⟨hfx, hro, hH, hS, hl, hd, hc, hk2, hz⟩ := X0
              refine xcalls ih (kc := kc9) (ks := ks9) ⟨hfx, hro, hH, hS, hl, hd, by omega, by omega, hz⟩ hck hkd hcall hsub ?_
              intro H1 locs1 lsB g1 g2 g3 g4 g5
              refine ih l D bs tc (d' + 1) i (pc + 3) ls (v9.toList ++ r) h9 n9 q sq v h1 n1 ka kb hi hrest p e0 R s m args below meth c H1 locs1 (cells + kc9) (slots + ks9) Q lsB ⟨hfx, g1, g2, g3, g4, hd, by omega, by omega, g5⟩ ?_
              intro e H2 locs2 lsC f1 f2 f3 f4 f5 f6
              have := hend e H2 locs2 lsC f1 f2 f3 f4 f5 (by omega)
              rw [Nat.add_assoc, Nat.add_assoc]
              exact this
      · next hn0 hn1 =>
        split at hex
        · cases hex
        · next pc9 ls9 st9 h9 n9 kc9 ks9 hst =>
          obtain ⟨ka, kb, hrest, rfl, rfl⟩ := xadd_some hex
          have X0 := X
          obtain ⟨hfx, hro, hH, hS, hl, hd, hc, hk2, hz⟩ := X0
          refine xstep (kc := kc9) (ks := ks9) ⟨hfx, hro, hH, hS, hl, hd, by omega, by omega, hz⟩ hck hst ?_
          intro H1 locs1 lsB g1 g2 g3 g4 g5
          refine ih l D bs tc d i pc9 ls9 st9 h9 n9 q sq v h1 n1 ka kb hi hrest p e0 R s m args below meth c H1 locs1 (cells + kc9) (slots + ks9) Q lsB ⟨hfx, g1, g2, g3, g4, hd, by omega, by omega, g5⟩ ?_
          intro e H2 locs2 lsC f1 f2 f3 f4 f5 f6
          have := hend e H2 locs2 lsC f1 f2 f3 f4 f5 (by omega)
          rw [Nat.add_assoc, Nat.add_assoc]
          exact this
end
section
/-! the claim out of one walk: the head is kit/laws/SKELETON.whole (pasted, a starting text) -/
/-! THE CLAIM OUT OF ONE WALK OF THE LAW'S BODY. Your part is whole_start (and what it stands on); all else here is the same for every law, but numbers. -/
def lw_P (b : Addr) (xs : List Int32) (args : Array Value) (s : State) : Prop := args = #[.ref b] ∧ s.IntsAt b xs ∧ xs.length ≤ 1536 ∧ (Jvm.Cond.and given_1 narrow_1).before args s = true
def lw_Q (_ : Array Value) (s : State) (o : Outcome) (t : State) : Prop := o = .returned (some (.int 1)) ∧ Framed s o t [] 600000 7302250
def lw_Z (below : List Frame) (a : Array Value) (s : State) : State → Prop := fun t => ∃ o, t.status = .running ∧ Ended t below o ∧ lw_Q a s o t
/-- the law's own end, with 1 on the stack, nothing written that was there before, its room as the claim has it -/
theorem lw_ret {p : Program} {l : Launch} {e : Env} {s : State} {m : MethodId} {below : List Frame} {meth : Method} {c : Code} {b : Nat} (hx : p.tables.exec = Jvm.exec) (hb : c.code = code) (hr : meth.sig.returnType = ret) (hlocks : meth.locks = false) {pc : Nat} {H : Heap} {ls : Array Slot} (hdg : decode code pc = .ok (.ireturn, 1)) : W p l e room_1 s m #[Value.ref b] below meth c H [] 600000 7302250 (lw_Z below #[Value.ref b] s) (F0 m pc ls [.int 1]) := by
  intro T hT X
  obtain ⟨fs, hret, hrun, hended, hW, hframe⟩ := X.leave (v := some (.int 1)) (hlocks := hlocks) (fun h => by rw [hr] at h; cases h)
  have hmeth' : T.vm.method? m = some meth := X.method'
  refine ⟨T.setFrames fs, ?_, .returned (some (.int 1)), hrun, hended, rfl, ⟨_, rfl⟩, hW, hframe⟩
  jvm_step X.here [X.here.top, hx, hb, hdg, hmeth', hr, ret, narrow_b1]
  (try refine ⟨rfl, ?_⟩); (try refine ⟨rfl, ?_⟩)
  first | (intro acts; rw [hret _ acts rfl rfl rfl]) | rw [hret _ _ rfl rfl rfl]
  exact Steps.refl _
/-- what holds at the law's entry: the machine, the code, the tables' words (any of lw_tbl by 'hts w (by decide +kernel)'), the script of L ints xs at the cell b, what the Statement gives of the start (any of its parts by flat_of_before) -/
def lw_At (p : Program) (s : State) (m : MethodId) (meth : Method) (c : Code) (b L : Nat) (xs : Nat → Int32) : Prop :=
  p.tables.exec = Jvm.exec ∧ c.code = code ∧ meth.sig.returnType = ret ∧ c.maxLocals = 4 ∧ s.vm.findClass R_law = some m.cls ∧ (∀ w ∈ lw_tbl, w.before #[Value.ref b] s = true) ∧ va_X b L xs s s.heap ∧ b < s.heap.size ∧ meth.locks = false ∧ (Jvm.Cond.and given_1 narrow_1).before #[Value.ref b] s = true
/-! the law's walk out of a run of the interpreter -/
def xlo : Nat → Int32 := fun j => if j = 0 then 2 else 1
def xhi : Nat → Int32 := fun j => if j = 0 then 6 else if j = 1 then 9 else 999
def xh0 (L : Nat) (xs : Nat → Int32) : xHp := fun k => if k = 0 then .inl (0, L, .inl xs) else if k = 1 then .inl (0, 3, .inl xlo) else if k = 2 then .inl (0, 3, .inl xhi) else xNo
theorem xeq_int {args : Array Value} {s : State} {t : Term} {z : Int32} (h : (Jvm.Cond.eq t (.int z)).before args s = true) : t.eval args s none [] s = some (.int z) := by
  obtain ⟨y, h1, h2⟩ := Cond.eq_one (show (Jvm.Cond.eq t (.int z)).holds args s none s [] = true from h)
  cases h2
  exact h1
theorem xro_of {args : Array Value} {s : State} {tm : Term} {f : Nat → Int32} (harr : (Jvm.Cond.arrayOf tm .int).before args s = true) (hlen : (Term.length tm).eval args s none [] s = some (.int 3)) (hel : ∀ j : Nat, j < 3 → (Term.elem tm (.int (Int32.ofNat j))).eval args s none [] s = some (.int (f j))) : ∃ t : Nat, tm.eval args s none [] s = some (.ref t) ∧ va_X t 3 f s s.heap ∧ t < s.heap.size := by
  obtain ⟨t, ht, cell, h1, h2, h3, h4, h5, h6, -⟩ := va_Tof (f := fun j => .int (f j)) (A := fun _ => False) (N := 3) (by omega) harr hlen hel (fun _ _ h => h)
  obtain ⟨t2, cell2, g1, g2, g3⟩ := Term.length_spec hlen
  have e1 : t2 = t := by
    have := g1.symm.trans ht
    injection this with this
    injection this
  subst e1
  obtain ⟨g4, -, -, -⟩ := State.arrayAt?_spec g2
  have e2 : cell2 = cell := Option.some.inj (g4.symm.trans h1)
  subst e2
  have hsz : cell2.slots.size < 2 ^ 31 := by
    simp only [Term.eval, ht, g2, Option.bind_eq_bind, Option.bind_some] at hlen
    by_cases hlt : cell2.slots.size < 2147483648
    · exact hlt
    · simp [hlt] at hlen
  have h33 : cell2.slots.size = 3 := by
    have e3 : Int32.ofNat cell2.slots.size = Int32.ofNat 3 := h5
    have e4 := congrArg Int32.toInt e3
    rw [show (Int32.ofNat cell2.slots.size) = nI cell2.slots.size from rfl, show Int32.ofNat 3 = nI 3 from rfl, nI_toInt hsz, nI_toInt (by omega)] at e4
    omega
  exact ⟨t2, ht, ⟨cell2, h1, h2, h3, h33, h6⟩, (Array.getElem?_eq_some_iff.mp h1).1⟩
theorem xco {q : Jvm.Cond} {i : Nat} (h : lw_tbl[i]? = some q) : q ∈ lw_tbl := List.mem_of_getElem? h
set_option maxHeartbeats 4000000 in
theorem whole_open {p : Program} {e : Env} {s : State} {m : MethodId} {below : List Frame} {meth : Method} {c : Code} (l : Launch) {b L : Nat} {xs : Nat → Int32} (C0 : lw_At p s m meth c b L xs)
    {f q : Nat} {sq : List Value} {h1 : xHp} {n1 kc ks : Nat} (hex : xex f 9 155 0 [(0, .ref 0)] [] (xh0 L xs) 3 = some (q, sq, some (.int 1), h1, n1, kc, ks)) (hkc : kc ≤ 600000) (hks : ks ≤ 7302250) :
    W p l e room_1 s m #[Value.ref b] below meth c s.heap [] 0 0 (lw_Z below #[Value.ref b] s) (entryFrame m ([Value.ref b] : List Value).toArray 4) := by
  obtain ⟨hx, hb, hr, hml, hown, hts, hX, hbl, hlocks, hgv⟩ := C0
  have hf := flat_of_before _ hgv
  have hA : ∀ a : Nat, a < s.heap.size → ¬ (fun q => s.heap.size ≤ q) a := fun a h1 h2 => Nat.not_le.mpr h1 h2
  obtain ⟨b1, hb1, hX1, hl1⟩ := xro_of (f := xlo) (tm := .static "BraidHorns" "LOWEST" "[I") (s := s) (args := #[Value.ref b]) (hf _ (by decide +kernel)) (xeq_int (hf _ (by decide +kernel))) (by
    intro j hj
    match j, hj with
    | 0, _ => exact xeq_int (hf (.eq (.elem (.static "BraidHorns" "LOWEST" "[I") (.int 0)) (.int 2)) (by decide +kernel))
    | 1, _ => exact xeq_int (hf (.eq (.elem (.static "BraidHorns" "LOWEST" "[I") (.int 1)) (.int 1)) (by decide +kernel))
    | 2, _ => exact xeq_int (hf (.eq (.elem (.static "BraidHorns" "LOWEST" "[I") (.int 2)) (.int 1)) (by decide +kernel)))
  obtain ⟨b2, hb2, hX2, hl2⟩ := xro_of (f := xhi) (tm := .static "BraidHorns" "HIGHEST" "[I") (s := s) (args := #[Value.ref b]) (hf _ (by decide +kernel)) (xeq_int (hf _ (by decide +kernel))) (by
    intro j hj
    match j, hj with
    | 0, _ => exact xeq_int (hf (.eq (.elem (.static "BraidHorns" "HIGHEST" "[I") (.int 0)) (.int 6)) (by decide +kernel))
    | 1, _ => exact xeq_int (hf (.eq (.elem (.static "BraidHorns" "HIGHEST" "[I") (.int 1)) (.int 9)) (by decide +kernel))
    | 2, _ => exact xeq_int (hf (.eq (.elem (.static "BraidHorns" "HIGHEST" "[I") (.int 2)) (.int 999)) (by decide +kernel)))
  have kn : ∀ (ci : Nat) (C : String) (T : u_T) (N : Nat), xcl[ci]? = some (C, T, N) → (∃ nn, Jvm.Cond.instantiable C nn ∈ lw_tbl) → ∃ (cC : ClassId) (iS : Nat → Nat), u_Kn s C T N cC iS := by
    intro ci C T N hcl ⟨nn, hin⟩
    exact u_known (ws := lw_tbl) hts (fun w hw => (List.mem_filter.mp ((xcl_ok hcl).1 w hw)).1) (hts _ hin)
  obtain ⟨c0, i0, k0⟩ := kn 0 _ _ _ rfl ⟨7, xco (i := 73) (by decide +kernel)⟩
  obtain ⟨c1, i1, k1⟩ := kn 1 _ _ _ rfl ⟨2, xco (i := 136) (by decide +kernel)⟩
  obtain ⟨c2, i2, k2⟩ := kn 2 _ _ _ rfl ⟨9, xco (i := 66) (by decide +kernel)⟩
  obtain ⟨c3, i3, k3⟩ := kn 3 _ _ _ rfl ⟨6, xco (i := 58) (by decide +kernel)⟩
  obtain ⟨c4, i4, k4⟩ := kn 4 _ _ _ rfl ⟨12, xco (i := 522) (by decide +kernel)⟩
  have hKc : ∃ (D : va_G), ∀ (k : Nat) (q : vw_C), xcl[k]? = some q → u_Kn s q.1 q.2.1 q.2.2 (D.1 k) (D.2 k) := by
    refine ⟨(fun k => if k = 0 then c0 else if k = 1 then c1 else if k = 2 then c2 else if k = 3 then c3 else c4, fun k => if k = 0 then i0 else if k = 1 then i1 else if k = 2 then i2 else if k = 3 then i3 else i4), ?_⟩
    intro k q hq
    match k, hq with
    | 0, hq => cases hq; exact k0
    | 1, hq => cases hq; exact k1
    | 2, hq => cases hq; exact k2
    | 3, hq => cases hq; exact k3
    | 4, hq => cases hq; exact k4
    | k + 5, hq => simp [xcl] at hq
  obtain ⟨D, hKc⟩ := hKc
  have arr : ∀ ty : FieldType, (match ty with | .int => true | .boolean => true | .char => true | _ => false) = true → (Jvm.Cond.arrayClass ty).before #[Value.ref b] s = true → ∃ cA, ArrOfT s cA ty ∧ va_RA s cA ty := by
    intro ty hty ha
    obtain ⟨cA, kA, comp, g1, g2, g3⟩ := Cond.arrayClass_spec (show (Jvm.Cond.arrayClass ty).holds #[Value.ref b] s none s [] = true from ha)
    refine ⟨cA, fun n z => ⟨fun k h => (by cases h), kA, g2, comp, g3⟩, ?_⟩
    cases ty <;> first | exact g1 | cases hty
  have aov : ∀ C : String, va_AO C s → ∃ cA, ArrOfT s cA (.object C) ∧ va_RA s cA (.object C) := by
    intro C ha
    obtain ⟨comp, cA, kA, g1, g2, g3, g4, g5⟩ := Cond.arrayOver_spec (va_AO.use (A := #[Value.ref b]) ha)
    exact ⟨cA, fun n z => ⟨fun k h => (by cases h), kA, g3, comp, g4⟩, kA, comp, g3, g4, g1, g5⟩
  have haT : va_AO "BraidHorns$Track" s := va_AO.of (hts _ (xco (i := 134) (by decide +kernel)))
  have haC : va_AO "BraidHorns$Carrier" s := va_AO.of (hts _ (xco (i := 72) (by decide +kernel)))
  obtain ⟨t0, u0, v0⟩ := arr .int rfl (hts _ (xco (i := 104) (by decide +kernel)))
  obtain ⟨t1, u1, v1⟩ := arr .boolean rfl (hts _ (xco (i := 149) (by decide +kernel)))
  obtain ⟨t2, u2, v2⟩ := arr .char rfl (hts _ (xco (i := 150) (by decide +kernel)))
  obtain ⟨t3, u3, v3⟩ := aov _ haT
  obtain ⟨t4, u4, v4⟩ := aov _ haC
  obtain ⟨tc, htc⟩ : ∃ tc : Nat → ClassId, tc = fun k => if k = 0 then t0 else if k = 1 then t1 else if k = 2 then t2 else if k = 3 then t3 else t4 := ⟨_, rfl⟩
  have hK : va_K D xcl (xtys tc) s := by
    refine ⟨hKc, ?_⟩
    intro k q hq
    subst htc
    match k, hq with
    | 0, hq => cases hq; exact ⟨u0, v0⟩
    | 1, hq => cases hq; exact ⟨u1, v1⟩
    | 2, hq => cases hq; exact ⟨u2, v2⟩
    | 3, hq => cases hq; exact ⟨u3, v3⟩
    | 4, hq => cases hq; exact ⟨u4, v4⟩
    | k + 5, hq => simp [xtys] at hq
  obtain ⟨bs, hbs⟩ : ∃ bs : Nat → Nat, bs = fun k => if k = 0 then b else if k = 1 then b1 else if k = 2 then b2 else s.heap.size := ⟨_, rfl⟩
  have e0 : bs 0 = b := by rw [hbs]; rfl
  have e1 : bs 1 = b1 := by rw [hbs]; rfl
  have e2 : bs 2 = b2 := by rw [hbs]; rfl
  have e3 : bs 3 = s.heap.size := by rw [hbs]; rfl
  have hAA : ∀ a : Nat, a < s.heap.size → ¬ xA bs a := fun a g1 g2 => by
    have : bs 3 ≤ a := g2
    omega
  have hini : (Jvm.Cond.initialized "BraidHorns").before #[Value.ref b] s = true := hts _ (xco (i := 48) (by decide +kernel))
  have hcx : xCx D bs tc s s.heap := by
    refine ⟨hK, ?_, ?_, haT, haC, ?_, ?_, ?_⟩
    · rw [e1]
      exact va_Zof (hts _ (xco (i := 194) (by decide +kernel))) hini hb1 hAA
    · rw [e2]
      exact va_Zof (hts _ (xco (i := 196) (by decide +kernel))) hini hb2 hAA
    · exact va_Nw.of (A := #[Value.ref b]) rfl (hts _ (xco (i := 193) (by decide +kernel)))
    · exact va_Nw.of (A := #[Value.ref b]) rfl (hts _ (xco (i := 195) (by decide +kernel)))
    · exact va_Nw.of (A := #[Value.ref b]) rfl (hts _ (xco (i := 74) (by decide +kernel)))
  have hro : xRo bs (xh0 L xs) s s.heap := by
    intro k hk
    match k, hk with
    | 0, _ => exact ⟨L, xs, rfl, by rw [e0]; exact hX, by rw [e0, e3]; exact hbl⟩
    | 1, _ => exact ⟨3, xlo, rfl, by rw [e1]; exact hX1, by rw [e1, e3]; exact hl1⟩
    | 2, _ => exact ⟨3, xhi, rfl, by rw [e2]; exact hX2, by rw [e2, e3]; exact hl2⟩
  have hH : xHd D bs tc (xh0 L xs) 3 s.heap := by
    refine ⟨Nat.le_refl _, fun k hk => ?_, fun k q hq => ?_, by rw [e3]; rfl⟩
    · unfold xh0
      rw [if_neg (by omega), if_neg (by omega), if_neg (by omega)]
    · simp [xws] at hq
  have hl := lv_entry ([.ref b]) (n := 4) (Nat.le_of_ble_eq_true rfl)
  rw [lg_entry_eq]
  generalize (lg_sl ([.ref b]) ++ List.replicate (4 - (lg_sl ([.ref b])).length) Slot.unset).toArray = ls at hl ⊢
  have hxad : xad bs 0 = b := by unfold xad; rw [if_pos (by omega), e0]
  have hl : lv_has ls (xMt 155).2.2.1 (xlm bs [(0, .ref 0)]) := by
    show lv_has ls 4 [(0, .ref (xad bs 0))]
    rw [hxad]
    exact hl
  have htsT : ∀ w ∈ xT, w.before #[Value.ref b] s = true := fun w hw => hts w (List.mem_filter.mp hw).1
  refine xsound f l D bs tc 9 155 0 [(0, .ref 0)] [] (xh0 L xs) 3 q sq (some (.int 1)) h1 n1 kc ks (by omega) hex p e room_1 s m #[Value.ref b] below meth c s.heap [] 0 0 (lw_Z below #[Value.ref b] s) ls ⟨⟨hx, hb, hml, hown, htsT, fun hi => by exact absurd hi (by decide), hcx, by rw [e3]; exact Nat.le_refl _⟩, hro, hH, va_S.rf, hl, ⟨Nat.le_refl _, Nat.le_refl _⟩, by show 0 + kc ≤ 600000; omega, by show 0 + ks ≤ 7302250; omega, by rw [e3]⟩ ?_
  intro e5 H1 locs1 lsB he hret hro1 hH1 hS1 hz1
  have hck := xchk_of (by omega) he
  obtain ⟨hdg0, hci⟩ := (Bool.and_eq_true _ _ ▸ hck : _ ∧ _)
  have hdg := of_decide_eq_true hdg0
  refine va_forget (fun g hg => by have := hS1.2.2 g hg; have g2 : bs 3 ≤ g.base := this; omega) ?_
  refine W.widen (k := 600000) (n := 7302250) (by omega) (by omega) ?_
  obtain ⟨ins, len, r1, r2, w0, ps⟩ := e5
  cases ins
  case ireturn =>
    have hlen : len = 1 := Nat.eq_of_beq_eq_true hci
    subst hlen
    obtain ⟨x, r, rfl, hreta⟩ := xpI_some (show xpI sq _ = some (some (Value.int 1)) from hret)
    obtain ⟨hemp, hretb⟩ := xgd_some hreta
    have hr0 : r = [] := List.isEmpty_iff.mp hemp
    clear hret hreta
    subst hr0
    obtain ⟨hn, hretc⟩ := xgd_some (show xgd _ (some (some (.int x))) = some (some (Value.int 1)) from hretb)
    cases hretc
    exact lw_ret hx hb hr hlocks hdg
  case lreturn =>
    obtain ⟨x, r, rfl, hreta⟩ := xpL_some (show xpL sq _ = some (some (Value.int 1)) from hret)
    obtain ⟨hemp, hretb⟩ := xgd_some hreta
    have hz : (none : Option (Option Value)) = some (some (Value.int 1)) := hretb
    cases hz
  case return_ =>
    obtain ⟨hemp, hretb⟩ := xgd_some (show xgd (List.isEmpty sq) _ = some (some (Value.int 1)) from hret)
    have hz : (none : Option (Option Value)) = some (some (Value.int 1)) := hretb
    cases hz
  all_goals (have hz : (none : Option (Option Value)) = some (some (Value.int 1)) := hret; cases hz)
end
section
/-! rules for runs of the interpreter that make no cell -/
theorem xadd_of {kc ks : Nat} {r : Option xOut} {q : Nat} {sq : List Value} {v : Option Value} {h : xHp} {n a b : Nat} (hr : r = some (q, sq, v, h, n, a, b)) : xadd kc ks r = some (q, sq, v, h, n, kc + a, ks + b) := by rw [hr]; rfl
/-- more fuel does no harm -/
theorem xex_more : ∀ (f d i pc : Nat) (ls : xLs) (st : List Value) (h : xHp) (n : Nat) (r : xOut), xex f d i pc ls st h n = some r → xex (f + 1) d i pc ls st h n = some r := by
  intro f
  induction f with
  | zero => intro d i pc ls st h n r hr; cases hr
  | succ f ih =>
    intro d i pc ls st h n r hr
    unfold xex at hr ⊢
    cases hfd : xfind i pc with
    | none => rw [hfd] at hr; cases hr
    | some e =>
      rw [hfd] at hr
      dsimp only at hr ⊢
      split at hr
      · exact hr
      · split at hr
        · cases hr
        · next j as r0 hc =>
          split at hr
          · cases hr
          · next d' =>
            split at hr
            · cases hr
            · next q9 sq9 v9 h9 n9 kc9 ks9 hsub =>
              obtain ⟨q, sq, v, h1, n1, a, b⟩ := r
              obtain ⟨a', b', hrest, rfl, rfl⟩ := xadd_some hr
              rw [ih _ _ _ _ _ _ _ _ hsub]
              exact xadd_of (ih _ _ _ _ _ _ _ _ hrest)
      · split at hr
        · cases hr
        · next pc9 ls9 st9 h9 n9 kc9 ks9 hst =>
          obtain ⟨q, sq, v, h1, n1, a, b⟩ := r
          obtain ⟨a', b', hrest, rfl, rfl⟩ := xadd_some hr
          exact xadd_of (ih _ _ _ _ _ _ _ _ hrest)
theorem xex_le {f f' d i pc : Nat} {ls : xLs} {st : List Value} {h : xHp} {n : Nat} {r : xOut} (hle : f ≤ f') (hr : xex f d i pc ls st h n = some r) : xex f' d i pc ls st h n = some r := by
  induction f' with
  | zero => rw [Nat.le_zero.mp hle] at hr; exact hr
  | succ k ih =>
    by_cases hk : f ≤ k
    · exact xex_more _ _ _ _ _ _ _ _ _ (ih hk)
    · rw [show f = k + 1 by omega] at hr; exact hr
/-- the method's run from here returns v with the heap h' -/
def Rn (d i pc : Nat) (ls : xLs) (st : List Value) (h : xHp) (n : Nat) (v : Option Value) (h' : xHp) (n' : Nat) : Prop := ∃ f q sq, xex f d i pc ls st h n = some (q, sq, v, h', n', 0, 0)
/-- a row of instructions that are no calls, no returns and make no cell -/
def xit (d i : Nat) : Nat → Nat → xLs → List Value → xHp → Nat → Option (Nat × xLs × List Value × xHp × Nat)
  | 0, pc, ls, st, h, n => some (pc, ls, st, h, n)
  | k + 1, pc, ls, st, h, n => match xfind i pc with
    | none => none
    | some e => cond (Nat.beq (xkind e) 2) (match xstp d e pc ls st h n with
      | none => none
      | some (pc1, ls1, st1, h1, n1, kc, ks) => cond (Nat.beq kc 0) (cond (Nat.beq ks 0) (xit d i k pc1 ls1 st1 h1 n1) none) none) none
section RN
variable {d i pc : Nat} {ls : xLs} {st : List Value} {h h' : xHp} {n n' : Nat} {v : Option Value}
theorem Rn.ret {e : xEn} (hf : xfind i pc = some e) (hk : xkind e = 0) (hr : xret i e st = some v) : Rn d i pc ls st h n v h n := ⟨1, pc, st, by unfold xex; simp only [hf, hk, hr]⟩
theorem Rn.step1 {e : xEn} {pc1 : Nat} {ls1 : xLs} {st1 : List Value} {h1 : xHp} {n1 : Nat} (hf : xfind i pc = some e) (hk : xkind e = 2) (hs : xstp d e pc ls st h n = some (pc1, ls1, st1, h1, n1, 0, 0)) (kk : Rn d i pc1 ls1 st1 h1 n1 v h' n') : Rn d i pc ls st h n v h' n' := by
  obtain ⟨f, q, sq, hr⟩ := kk
  refine ⟨f + 1, q, sq, ?_⟩
  unfold xex
  simp only [hf, hk, hs, hr]
  rfl
theorem Rn.call {e : xEn} {j : Nat} {as r : List Value} {v1 : Option Value} {h1 : xHp} {n1 : Nat} (hf : xfind i pc = some e) (hk : xkind e = 1) (hs : xcall e st h = some (j, as, r)) (hc : Rn d j 0 (lv_args 0 as) [] h n v1 h1 n1) (kk : Rn (d + 1) i (pc + 3) ls (v1.toList ++ r) h1 n1 v h' n') : Rn (d + 1) i pc ls st h n v h' n' := by
  obtain ⟨f1, q1, sq1, hr1⟩ := hc
  obtain ⟨f2, q, sq, hr⟩ := kk
  refine ⟨max f1 f2 + 1, q, sq, ?_⟩
  have e1 := xex_le (Nat.le_max_left f1 f2) hr1
  have e2 := xex_le (Nat.le_max_right f1 f2) hr
  unfold xex
  simp only [hf, hk, hs, e1, e2]
  rfl
theorem Rn.steps : ∀ (k : Nat) {pc : Nat} {ls : xLs} {st : List Value} {h : xHp} {n pc1 : Nat} {ls1 : xLs} {st1 : List Value} {h1 : xHp} {n1 : Nat} (_ : xit d i k pc ls st h n = some (pc1, ls1, st1, h1, n1)) (_ : Rn d i pc1 ls1 st1 h1 n1 v h' n'), Rn d i pc ls st h n v h' n' := by
  intro k
  induction k with
  | zero =>
    intro pc ls st h n pc1 ls1 st1 h1 n1 hx kk
    cases hx
    exact kk
  | succ k ih =>
    intro pc ls st h n pc1 ls1 st1 h1 n1 hx kk
    unfold xit at hx
    cases hf : xfind i pc with
    | none => rw [hf] at hx; cases hx
    | some e =>
      rw [hf] at hx
      dsimp only at hx
      cases hk : Nat.beq (xkind e) 2 with
      | false => rw [hk] at hx; cases hx
      | true =>
        rw [hk] at hx
        dsimp only [cond] at hx
        split at hx
        · cases hx
        · next pc2 ls2 st2 h2 n2 kc ks hs =>
          cases hkc : Nat.beq kc 0 with
          | false => rw [hkc] at hx; cases hx
          | true =>
            cases hks : Nat.beq ks 0 with
            | false => rw [hkc, hks] at hx; cases hx
            | true =>
              rw [hkc, hks] at hx
              have e1 : kc = 0 := Nat.eq_of_beq_eq_true hkc
              have e2 : ks = 0 := Nat.eq_of_beq_eq_true hks
              subst e1; subst e2
              exact Rn.step1 hf (Nat.eq_of_beq_eq_true hk) hs (ih hx kk)
/-- a branch behind such a row -/
theorem Rn.br (k : Nat) {c : Prop} [Decidable c] {a b : Nat} {ls1 : xLs} {st1 : List Value} {h1 : xHp} {n1 : Nat} (hx : xit d i k pc ls st h n = some (if c then a else b, ls1, st1, h1, n1)) (kt : c → Rn d i a ls1 st1 h1 n1 v h' n') (kf : ¬ c → Rn d i b ls1 st1 h1 n1 v h' n') : Rn d i pc ls st h n v h' n' := by
  refine Rn.steps k hx ?_
  by_cases hc : c
  · rw [if_pos hc]; exact kt hc
  · rw [if_neg hc]; exact kf hc
end RN
end
section
/-! fewer locals: a run with some of the locals is a run with all -/
def xnk (ls : xLs) : Prop := (ls.map (fun q => q.1)).Nodup
def xsub (a b : xLs) : Prop := ∀ i v, xld a i = some v → xld b i = some v
theorem xld_cons {q : Nat × Value} {ls : xLs} {i : Nat} : xld (q :: ls) i = cond (Nat.beq q.1 i) (some q.2) (xld ls i) := rfl
theorem xld_mem {ls : xLs} {i : Nat} {v : Value} (h : xld ls i = some v) : (i, v) ∈ ls := by
  induction ls with
  | nil => cases h
  | cons q r ih =>
    rw [xld_cons] at h
    cases hb : Nat.beq q.1 i with
    | true =>
      rw [hb] at h
      have e : q.1 = i := Nat.eq_of_beq_eq_true hb
      have e2 : q.2 = v := Option.some.inj h
      rw [← e, ← e2]
      exact List.mem_cons_self
    | false => rw [hb] at h; exact List.mem_cons_of_mem _ (ih h)
theorem xld_keep {p : Nat × Value → Bool} {ls : xLs} {i : Nat} {v : Value} (h : xld ls i = some v) (hp : p (i, v) = true) : xld (ls.filter p) i = some v := by
  induction ls with
  | nil => cases h
  | cons q r ih =>
    rw [xld_cons] at h
    cases hb : Nat.beq q.1 i with
    | true =>
      rw [hb] at h
      have e : q.1 = i := Nat.eq_of_beq_eq_true hb
      have e2 : q.2 = v := Option.some.inj h
      have eq : q = (i, v) := by rw [← e, ← e2]
      rw [eq, List.filter_cons_of_pos hp, xld_cons]
      show cond (Nat.beq i i) (some v) _ = some v
      rw [Nat.beq_refl]
      rfl
    | false =>
      rw [hb] at h
      cases hq : p q with
      | true =>
        rw [List.filter_cons_of_pos hq, xld_cons, hb]
        exact ih h
      | false =>
        rw [List.filter_cons_of_neg (by rw [hq]; decide)]
        exact ih h
theorem xld_from {p : Nat × Value → Bool} {ls : xLs} {i : Nat} {v : Value} (hn : xnk ls) (h : xld (ls.filter p) i = some v) : xld ls i = some v ∧ p (i, v) = true := by
  induction ls with
  | nil => cases h
  | cons q r ih =>
    have hn2 : q.1 ∉ r.map (fun q => q.1) ∧ xnk r := List.nodup_cons.mp hn
    cases hq : p q with
    | true =>
      rw [List.filter_cons_of_pos hq, xld_cons] at h
      rw [xld_cons]
      cases hb : Nat.beq q.1 i with
      | true =>
        rw [hb] at h
        have e : q.1 = i := Nat.eq_of_beq_eq_true hb
        have e2 : q.2 = v := Option.some.inj h
        refine ⟨h, ?_⟩
        rw [← e, ← e2]
        exact hq
      | false =>
        rw [hb] at h
        exact ih hn2.2 h
    | false =>
      rw [List.filter_cons_of_neg (by rw [hq]; decide)] at h
      have h2 := ih hn2.2 h
      rw [xld_cons]
      cases hb : Nat.beq q.1 i with
      | true =>
        have e : q.1 = i := Nat.eq_of_beq_eq_true hb
        exfalso
        apply hn2.1
        rw [e]
        exact List.mem_map.mpr ⟨(i, v), xld_mem h2.1, rfl⟩
      | false => exact h2
theorem xsub_st {p : Nat × Value → Bool} {a b : xLs} {i : Nat} {v : Value} (hn : xnk a) (hs : xsub a b) : xsub ((i, v) :: a.filter p) ((i, v) :: b.filter p) := by
  intro j w h
  rw [xld_cons] at h ⊢
  cases hb : Nat.beq (i, v).1 j with
  | true => rw [hb] at h; exact h
  | false =>
    rw [hb] at h
    obtain ⟨h1, h2⟩ := xld_from hn h
    exact xld_keep (hs _ _ h1) h2
theorem xnk_st {p : Nat × Value → Bool} {a : xLs} {i : Nat} {v : Value} (hn : xnk a) (hp : ∀ w, p (i, w) = false) : xnk ((i, v) :: a.filter p) := by
  refine List.nodup_cons.mpr ⟨fun hm => ?_, ?_⟩
  · obtain ⟨q, hq, he⟩ := List.mem_map.mp hm
    have h1 := (List.mem_filter.mp hq).2
    have he2 : q.1 = i := he
    have : q = (i, q.2) := by rw [← he2]
    rw [this, hp] at h1
    cases h1
  · exact List.Sublist.nodup (List.Sublist.map _ List.filter_sublist) hn
theorem xnk_st1 {a : xLs} {i : Nat} {v : Value} (hn : xnk a) : xnk (xst1 a i v) := xnk_st hn (fun w => by simp)
theorem xnk_st2 {a : xLs} {i : Nat} {v : Value} (hn : xnk a) : xnk (xst2 a i v) := xnk_st hn (fun w => by simp)
def xset (ls : xLs) (r : xRs) : xRs := (r.1, ls, r.2.2)
theorem xpI_map {st : List Value} {k : Int32 → List Value → Option xRs} {g : xRs → xRs} : (xpI st k).map g = xpI st (fun x r => (k x r).map g) := by unfold xpI; split <;> rfl
theorem xpL_map {st : List Value} {k : Int64 → List Value → Option xRs} {g : xRs → xRs} : (xpL st k).map g = xpL st (fun x r => (k x r).map g) := by unfold xpL; split <;> rfl
theorem xpR_map {st : List Value} {k : Nat → List Value → Option xRs} {g : xRs → xRs} : (xpR st k).map g = xpR st (fun x r => (k x r).map g) := by unfold xpR; split <;> rfl
theorem xpV_map {st : List Value} {k : Value → List Value → Option xRs} {g : xRs → xRs} : (xpV st k).map g = xpV st (fun x r => (k x r).map g) := by unfold xpV; split <;> rfl
theorem xgI_map {v : Option Value} {k : Int32 → Option xRs} {g : xRs → xRs} : (xgI v k).map g = xgI v (fun x => (k x).map g) := by unfold xgI; split <;> rfl
theorem xgL_map {v : Option Value} {k : Int64 → Option xRs} {g : xRs → xRs} : (xgL v k).map g = xgL v (fun x => (k x).map g) := by unfold xgL; split <;> rfl
theorem xgO_map {β : Type} {v : Option β} {k : β → Option xRs} {g : xRs → xRs} : (xgO v k).map g = xgO v (fun x => (k x).map g) := by unfold xgO; split <;> rfl
theorem xcI_map {c : xLC} {k : Nat → Nat → (Nat → Int32) → Option xRs} {g : xRs → xRs} : (xcI c k).map g = xcI c (fun t l f => (k t l f).map g) := by unfold xcI; split <;> rfl
theorem xcQ_map {c : xLC} {k : Nat → Nat → (Nat → Option Nat) → Option xRs} {g : xRs → xRs} : (xcQ c k).map g = xcQ c (fun t l f => (k t l f).map g) := by unfold xcQ; split <;> rfl
theorem xcO_map {c : xLC} {k : Nat → List Value → Option xRs} {g : xRs → xRs} : (xcO c k).map g = xcO c (fun t l => (k t l).map g) := by unfold xcO; split <;> rfl
theorem xcN_map {c : xLC} {k : Nat → Nat → Option xRs} {g : xRs → xRs} : (xcN c k).map g = xcN c (fun t l => (k t l).map g) := by unfold xcN; split <;> rfl
theorem xgd_map {b : Bool} {a : Option xRs} {g : xRs → xRs} : (xgd b a).map g = xgd b (a.map g) := by cases b <;> rfl
theorem xcond_map {b : Bool} {a c : Option xRs} {g : xRs → xRs} : (cond b a c).map g = cond b (a.map g) (c.map g) := by cases b <;> rfl
theorem xgp_map {c : Prop} [Decidable c] {a : Option xRs} {g : xRs → xRs} : (xgp c a).map g = xgp c (a.map g) := by unfold xgp; split <;> rfl
theorem xgo_map {pc : Nat} {ls ls' : xLs} {st : List Value} {h : xHp} {n : Nat} : (xgo pc ls' st h n).map (xset ls) = xgo pc ls st h n := rfl
def xloc (i : Instr) : Bool := match i with
  | .iload_n _ => true | .iload _ => true | .lload_n _ => true | .lload _ => true | .aload_n _ => true | .aload _ => true
  | .istore_n _ => true | .istore _ => true | .lstore_n _ => true | .lstore _ => true | .astore_n _ => true | .astore _ => true | .iinc _ _ => true | _ => false
theorem xstp_ls {d : Nat} {e : xEn} {pc : Nat} {ls ls' : xLs} {st : List Value} {h : xHp} {n : Nat} (hl : xloc e.1 = false) : (xstp d e pc ls' st h n).map (xset ls) = xstp d e pc ls st h n := by
  obtain ⟨ins, len, r1, r2, v0, ps⟩ := e
  cases ins <;> first | (simp only [xstp, xpI_map, xpL_map, xpR_map, xpV_map, xgI_map, xgL_map, xgO_map, xcI_map, xcQ_map, xcO_map, xcN_map, xgd_map, xcond_map, xgp_map, xgo_map, Option.map_some]; done) | (simp only [xstp, xpI_map, xpL_map, xpR_map, xpV_map, xgI_map, xgL_map, xgO_map, xcI_map, xcQ_map, xcO_map, xcN_map, xgd_map, xcond_map, xgp_map, xgo_map, Option.map_some]; rfl) | rfl | cases hl
theorem xstp_sub {d : Nat} {e : xEn} {pc : Nat} {ls0 ls : xLs} {st : List Value} {h : xHp} {n pc1 : Nat} {ls1 : xLs} {st1 : List Value} {h1 : xHp} {n1 kc ks : Nat} (hn : xnk ls0) (hsub : xsub ls0 ls) (hs : xstp d e pc ls0 st h n = some (pc1, ls1, st1, h1, n1, kc, ks)) : ∃ ls2, xstp d e pc ls st h n = some (pc1, ls2, st1, h1, n1, kc, ks) ∧ xsub ls1 ls2 ∧ xnk ls1 := by
  cases hl : xloc e.1 with
  | false =>
    have h1 := xstp_ls (d := d) (pc := pc) (ls := ls) (ls' := ls0) (st := st) (h := h) (n := n) hl
    have h2 := xstp_ls (d := d) (pc := pc) (ls := ls0) (ls' := ls0) (st := st) (h := h) (n := n) hl
    rw [hs] at h1 h2
    have e2 : ls0 = ls1 := by
      have h3 := Option.some.inj h2
      exact congrArg (fun r : xRs => r.2.1) h3
    subst e2
    exact ⟨ls, h1.symm, hsub, hn⟩
  | true =>
    obtain ⟨ins, len, r1, r2, v0, ps⟩ := e
    cases ins
    case iload_n w =>
      obtain ⟨x, hv, hs2⟩ := xgI_some (show xgI (xld ls0 w) _ = some _ from hs)
      clear hs
      obtain ⟨rfl, rfl, rfl, rfl, rfl, rfl, rfl⟩ := xgo_some hs2
      refine ⟨ls, ?_, hsub, hn⟩
      show xgI (xld ls w) _ = some _
      rw [hsub _ _ hv]
      rfl
    case iload w =>
      obtain ⟨x, hv, hs2⟩ := xgI_some (show xgI (xld ls0 w) _ = some _ from hs)
      clear hs
      obtain ⟨rfl, rfl, rfl, rfl, rfl, rfl, rfl⟩ := xgo_some hs2
      refine ⟨ls, ?_, hsub, hn⟩
      show xgI (xld ls w) _ = some _
      rw [hsub _ _ hv]
      rfl
    case lload_n w =>
      obtain ⟨x, hv, hs2⟩ := xgL_some (show xgL (xld ls0 w) _ = some _ from hs)
      clear hs
      obtain ⟨rfl, rfl, rfl, rfl, rfl, rfl, rfl⟩ := xgo_some hs2
      refine ⟨ls, ?_, hsub, hn⟩
      show xgL (xld ls w) _ = some _
      rw [hsub _ _ hv]
      rfl
    case lload w =>
      obtain ⟨x, hv, hs2⟩ := xgL_some (show xgL (xld ls0 w) _ = some _ from hs)
      clear hs
      obtain ⟨rfl, rfl, rfl, rfl, rfl, rfl, rfl⟩ := xgo_some hs2
      refine ⟨ls, ?_, hsub, hn⟩
      show xgL (xld ls w) _ = some _
      rw [hsub _ _ hv]
      rfl
    case aload_n w =>
      obtain ⟨x, hv, hs2⟩ := xgR_some (show xgR (xld ls0 w) _ = some _ from hs)
      clear hs
      obtain ⟨rfl, rfl, rfl, rfl, rfl, rfl, rfl⟩ := xgo_some hs2
      refine ⟨ls, ?_, hsub, hn⟩
      show xgR (xld ls w) _ = some _
      rw [hsub _ _ hv]
      rfl
    case aload w =>
      obtain ⟨x, hv, hs2⟩ := xgR_some (show xgR (xld ls0 w) _ = some _ from hs)
      clear hs
      obtain ⟨rfl, rfl, rfl, rfl, rfl, rfl, rfl⟩ := xgo_some hs2
      refine ⟨ls, ?_, hsub, hn⟩
      show xgR (xld ls w) _ = some _
      rw [hsub _ _ hv]
      rfl
    case istore_n w =>
      obtain ⟨x, r, rfl, hs2⟩ := xpI_some (show xpI st _ = some _ from hs)
      clear hs
      obtain ⟨rfl, rfl, rfl, rfl, rfl, rfl, rfl⟩ := xgo_some hs2
      exact ⟨_, rfl, xsub_st hn hsub, xnk_st1 hn⟩
    case istore w =>
      obtain ⟨x, r, rfl, hs2⟩ := xpI_some (show xpI st _ = some _ from hs)
      clear hs
      obtain ⟨rfl, rfl, rfl, rfl, rfl, rfl, rfl⟩ := xgo_some hs2
      exact ⟨_, rfl, xsub_st hn hsub, xnk_st1 hn⟩
    case lstore_n w =>
      obtain ⟨x, r, rfl, hs2⟩ := xpL_some (show xpL st _ = some _ from hs)
      clear hs
      obtain ⟨rfl, rfl, rfl, rfl, rfl, rfl, rfl⟩ := xgo_some hs2
      exact ⟨_, rfl, xsub_st hn hsub, xnk_st2 hn⟩
    case lstore w =>
      obtain ⟨x, r, rfl, hs2⟩ := xpL_some (show xpL st _ = some _ from hs)
      clear hs
      obtain ⟨rfl, rfl, rfl, rfl, rfl, rfl, rfl⟩ := xgo_some hs2
      exact ⟨_, rfl, xsub_st hn hsub, xnk_st2 hn⟩
    case astore_n w =>
      obtain ⟨x, r, rfl, hs2⟩ := xpR_some (show xpR st _ = some _ from hs)
      clear hs
      obtain ⟨rfl, rfl, rfl, rfl, rfl, rfl, rfl⟩ := xgo_some hs2
      exact ⟨_, rfl, xsub_st hn hsub, xnk_st1 hn⟩
    case astore w =>
      obtain ⟨x, r, rfl, hs2⟩ := xpR_some (show xpR st _ = some _ from hs)
      clear hs
      obtain ⟨rfl, rfl, rfl, rfl, rfl, rfl, rfl⟩ := xgo_some hs2
      exact ⟨_, rfl, xsub_st hn hsub, xnk_st1 hn⟩
    case iinc w w2 =>
      obtain ⟨x, hv, hs2⟩ := xgI_some (show xgI (xld ls0 w) _ = some _ from hs)
      clear hs
      obtain ⟨y, hy, hs3⟩ := xgI_some hs2
      clear hs2
      obtain ⟨rfl, rfl, rfl, rfl, rfl, rfl, rfl⟩ := xgo_some hs3
      refine ⟨xst1 ls w (.int (x + y)), ?_, xsub_st hn hsub, xnk_st1 hn⟩
      show xgI (xld ls w) _ = some _
      rw [hsub _ _ hv]
      have hy2 : v0 = .int y := Option.some.inj hy
      subst hy2
      rfl
    all_goals cases hl
theorem xex_sub : ∀ (f d i pc : Nat) (ls0 ls : xLs) (st : List Value) (h : xHp) (n : Nat) (r : xOut), xnk ls0 → xsub ls0 ls → xex f d i pc ls0 st h n = some r → xex f d i pc ls st h n = some r := by
  intro f
  induction f with
  | zero => intro d i pc ls0 ls st h n r hn hsub hr; cases hr
  | succ f ih =>
    intro d i pc ls0 ls st h n r hn hsub hr
    unfold xex at hr ⊢
    cases hfd : xfind i pc with
    | none => rw [hfd] at hr; cases hr
    | some e =>
      rw [hfd] at hr
      dsimp only at hr ⊢
      split at hr
      · exact hr
      · split at hr
        · cases hr
        · next j as r0 hc =>
          split at hr
          · cases hr
          · next d' =>
            split at hr
            · cases hr
            · next q9 sq9 v9 h9 n9 kc9 ks9 hsub9 =>
              obtain ⟨q, sq, v, h1, n1, a, b⟩ := r
              obtain ⟨a', b', hrest, rfl, rfl⟩ := xadd_some hr
              exact xadd_of (ih _ _ _ _ _ _ _ _ _ hn hsub hrest)
      · split at hr
        · cases hr
        · next pc9 ls9 st9 h9 n9 kc9 ks9 hst =>
          obtain ⟨q, sq, v, h1, n1, a, b⟩ := r
          obtain ⟨a', b', hrest, rfl, rfl⟩ := xadd_some hr
          obtain ⟨ls2, g1, g2, g3⟩ := xstp_sub hn hsub hst
          rw [g1]
          exact xadd_of (ih _ _ _ _ _ _ _ _ _ g3 g2 hrest)
theorem xsub_of {a b : xLs} (h : ∀ q ∈ a, xld b q.1 = some q.2) : xsub a b := fun i v hv => h (i, v) (xld_mem hv)
section RN2
variable {d i pc : Nat} {ls : xLs} {st : List Value} {h h' : xHp} {n n' : Nat} {v : Option Value}
theorem Rn.locals (ls0 : xLs) (hn : xnk ls0) (hs : ∀ q ∈ ls0, xld ls q.1 = some q.2) (kk : Rn d i pc ls0 st h n v h' n') : Rn d i pc ls st h n v h' n' := by
  obtain ⟨f, q, sq, hr⟩ := kk
  exact ⟨f, q, sq, xex_sub f d i pc ls0 ls st h n _ hn (xsub_of hs) hr⟩
theorem Rn.l1 (a : Nat) (x : Value) (h1 : xld ls a = some x) (kk : Rn d i pc [(a, x)] st h n v h' n') : Rn d i pc ls st h n v h' n' := Rn.locals [(a, x)] (by simp [xnk]) (by intro q hq; rw [List.mem_singleton.mp hq]; exact h1) kk
theorem Rn.l2 {a b : Nat} {x y : Value} (hab : Nat.beq a b = false) (h1 : xld ls a = some x) (h2 : xld ls b = some y) (kk : Rn d i pc [(a, x), (b, y)] st h n v h' n') : Rn d i pc ls st h n v h' n' := Rn.locals [(a, x), (b, y)] (by have := Nat.ne_of_beq_eq_false hab; simp [xnk, this]) (by intro q hq; simp only [List.mem_cons, List.not_mem_nil, or_false] at hq; rcases hq with rfl | rfl <;> assumption) kk
/-- the value and the heap behind a return, as they are wanted -/
theorem Rn.retE {e : xEn} {v0 : Option Value} (hf : xfind i pc = some e) (hk : xkind e = 0) (hr : xret i e st = some v0) (hv : v0 = v) (hh : h = h') : Rn d i pc ls st h n v h' n := by
  subst hv; subst hh
  exact Rn.ret hf hk hr
/-- other words for the heap, the stack, the locals -/
theorem Rn.heap {h2 : xHp} (e : h = h2) (kk : Rn d i pc ls st h2 n v h' n') : Rn d i pc ls st h n v h' n' := e ▸ kk
theorem Rn.stk {st2 : List Value} (e : st = st2) (kk : Rn d i pc ls st2 h n v h' n') : Rn d i pc ls st h n v h' n' := e ▸ kk
end RN2
end
section
/-! rules for reads and writes of rows, fields and cells -/
theorem xgp_pos {α : Type} {c : Prop} [Decidable c] {a : Option α} (h : c) : xgp c a = a := if_pos h
theorem xin_nI {m len : Nat} (hm : m < len) (hl : len < 2 ^ 31) : ¬ (nI m < 0 ∨ len ≤ (nI m).toNatClampNeg) := vp_in_nI hm hl
theorem xbeq_no {a b : Nat} (h : ¬ a = b) : Nat.beq a b = false := by
  cases hb : Nat.beq a b with
  | true => exact absurd (Nat.eq_of_beq_eq_true hb) h
  | false => rfl
section RN3
variable {d i pc : Nat} {ls : xLs} {st : List Value} {h h' : xHp} {n n' : Nat} {v : Option Value}
theorem Rn.ialdN {e : xEn} {k len m : Nat} {f : Nat → Int32} {j : Int32} {r : List Value} (hf : xfind i pc = some e) (he : e.1 = .iaload) (hk : h k = .inl (0, len, .inl f)) (hj : j = nI m) (hm : m < len) (hl : len < 2 ^ 31) (kk : Rn d i (pc + 1) ls (.int (f m) :: r) h n v h' n') : Rn d i pc ls (.int j :: .ref k :: r) h n v h' n' := by
  obtain ⟨ins, e2⟩ := e
  dsimp only at he
  subst he
  refine Rn.step1 hf rfl ?_ kk
  subst hj
  show xcI (h k) _ = _
  rw [hk]
  show xgd true (xgp (¬ (nI m < 0 ∨ len ≤ (nI m).toNatClampNeg)) _) = _
  rw [xgp_pos (xin_nI hm hl), nI_clamp (Nat.lt_trans hm hl)]
  rfl
theorem Rn.baldN {e : xEn} {k len m : Nat} {f : Nat → Int32} {j : Int32} {r : List Value} (hf : xfind i pc = some e) (he : e.1 = .baload) (hk : h k = .inl (1, len, .inl f)) (hj : j = nI m) (hm : m < len) (hl : len < 2 ^ 31) (kk : Rn d i (pc + 1) ls (.int (f m) :: r) h n v h' n') : Rn d i pc ls (.int j :: .ref k :: r) h n v h' n' := by
  obtain ⟨ins, e2⟩ := e
  dsimp only at he
  subst he
  refine Rn.step1 hf rfl ?_ kk
  subst hj
  show xcI (h k) _ = _
  rw [hk]
  show xgd true (xgp (¬ (nI m < 0 ∨ len ≤ (nI m).toNatClampNeg)) _) = _
  rw [xgp_pos (xin_nI hm hl), nI_clamp (Nat.lt_trans hm hl)]
  rfl
theorem Rn.caldN {e : xEn} {k len m : Nat} {f : Nat → Int32} {j : Int32} {r : List Value} (hf : xfind i pc = some e) (he : e.1 = .caload) (hk : h k = .inl (2, len, .inl f)) (hj : j = nI m) (hm : m < len) (hl : len < 2 ^ 31) (kk : Rn d i (pc + 1) ls (.int (f m) :: r) h n v h' n') : Rn d i pc ls (.int j :: .ref k :: r) h n v h' n' := by
  obtain ⟨ins, e2⟩ := e
  dsimp only at he
  subst he
  refine Rn.step1 hf rfl ?_ kk
  subst hj
  show xcI (h k) _ = _
  rw [hk]
  show xgd true (xgp (¬ (nI m < 0 ∨ len ≤ (nI m).toNatClampNeg)) _) = _
  rw [xgp_pos (xin_nI hm hl), nI_clamp (Nat.lt_trans hm hl)]
  rfl
theorem Rn.iastN {e : xEn} {k len m : Nat} {f : Nat → Int32} {j x : Int32} {r : List Value} (hf : xfind i pc = some e) (he : e.1 = .iastore) (hk : h k = .inl (0, len, .inl f)) (h3 : Nat.ble 3 k = true) (hj : j = nI m) (hm : m < len) (hl : len < 2 ^ 31) (kk : Rn d i (pc + 1) ls r (xup h k (.inl (0, len, .inl (upd f m x)))) n v h' n') : Rn d i pc ls (.int x :: .int j :: .ref k :: r) h n v h' n' := by
  obtain ⟨ins, e2⟩ := e
  dsimp only at he
  subst he
  refine Rn.step1 hf rfl ?_ kk
  subst hj
  show xcI (h k) _ = _
  rw [hk]
  show xgd (Nat.ble 3 k) (xgd true (xgp (¬ (nI m < 0 ∨ len ≤ (nI m).toNatClampNeg)) _)) = _
  rw [xgp_pos (xin_nI hm hl), nI_clamp (Nat.lt_trans hm hl), h3]
  rfl
theorem Rn.bastN {e : xEn} {k len m : Nat} {f : Nat → Int32} {j x : Int32} {r : List Value} (hf : xfind i pc = some e) (he : e.1 = .bastore) (hk : h k = .inl (1, len, .inl f)) (h3 : Nat.ble 3 k = true) (hj : j = nI m) (hm : m < len) (hl : len < 2 ^ 31) (kk : Rn d i (pc + 1) ls r (xup h k (.inl (1, len, .inl (upd f m (vp_nar .boolean x))))) n v h' n') : Rn d i pc ls (.int x :: .int j :: .ref k :: r) h n v h' n' := by
  obtain ⟨ins, e2⟩ := e
  dsimp only at he
  subst he
  refine Rn.step1 hf rfl ?_ kk
  subst hj
  show xcI (h k) _ = _
  rw [hk]
  show xgd (Nat.ble 3 k) (xgd true (xgp (¬ (nI m < 0 ∨ len ≤ (nI m).toNatClampNeg)) _)) = _
  rw [xgp_pos (xin_nI hm hl), nI_clamp (Nat.lt_trans hm hl), h3]
  rfl
theorem Rn.castN {e : xEn} {k len m : Nat} {f : Nat → Int32} {j x : Int32} {r : List Value} (hf : xfind i pc = some e) (he : e.1 = .castore) (hk : h k = .inl (2, len, .inl f)) (h3 : Nat.ble 3 k = true) (hj : j = nI m) (hm : m < len) (hl : len < 2 ^ 31) (kk : Rn d i (pc + 1) ls r (xup h k (.inl (2, len, .inl (upd f m (vp_nar .char x))))) n v h' n') : Rn d i pc ls (.int x :: .int j :: .ref k :: r) h n v h' n' := by
  obtain ⟨ins, e2⟩ := e
  dsimp only at he
  subst he
  refine Rn.step1 hf rfl ?_ kk
  subst hj
  show xcI (h k) _ = _
  rw [hk]
  show xgd (Nat.ble 3 k) (xgd true (xgp (¬ (nI m < 0 ∨ len ≤ (nI m).toNatClampNeg)) _)) = _
  rw [xgp_pos (xin_nI hm hl), nI_clamp (Nat.lt_trans hm hl), h3]
  rfl
theorem Rn.aaldN {e : xEn} {k t len m q : Nat} {f : Nat → Option Nat} {j : Int32} {r : List Value} (hf : xfind i pc = some e) (he : e.1 = .aaload) (hk : h k = .inl (t, len, .inr f)) (ht : (Nat.beq t 3 || Nat.beq t 4) = true) (hj : j = nI m) (hm : m < len) (hl : len < 2 ^ 31) (hq : f m = some q) (kk : Rn d i (pc + 1) ls (.ref q :: r) h n v h' n') : Rn d i pc ls (.int j :: .ref k :: r) h n v h' n' := by
  obtain ⟨ins, e2⟩ := e
  dsimp only at he
  subst he
  refine Rn.step1 hf rfl ?_ kk
  subst hj
  show xcQ (h k) _ = _
  rw [hk]
  show xgd (Nat.beq t 3 || Nat.beq t 4) (xgp (¬ (nI m < 0 ∨ len ≤ (nI m).toNatClampNeg)) (xgO (f (nI m).toNatClampNeg) _)) = _
  rw [xgp_pos (xin_nI hm hl), nI_clamp (Nat.lt_trans hm hl), ht, hq]
  rfl
theorem Rn.getf {e : xEn} {k : Nat} {fs : List Value} {x : Value} {r : List Value} (hf : xfind i pc = some e) {idx : Nat} (he : e.1 = .getfield idx) (hk : h k = .inr (e.2.2.1, fs)) (hx : fs[e.2.2.2.1]? = some x) (kk : Rn d i (pc + 3) ls (x :: r) h n v h' n') : Rn d i pc ls (.ref k :: r) h n v h' n' := by
  obtain ⟨ins, len, r1, r2, v0, ps⟩ := e
  dsimp only at he hk hx
  subst he
  refine Rn.step1 hf rfl ?_ kk
  show xcO (h k) _ = _
  rw [hk]
  show xgd (Nat.beq r1 r1) (xgO fs[r2]? _) = _
  rw [hx, Nat.beq_refl]
  rfl
theorem Rn.putf {e : xEn} {k : Nat} {fs : List Value} {x : Value} {r : List Value} (hf : xfind i pc = some e) {idx : Nat} (he : e.1 = .putfield idx) (hk : h k = .inr (e.2.2.1, fs)) (hx : fits (xfty e.2.2.1 e.2.2.2.1) x = true) (hl : Nat.blt e.2.2.2.1 fs.length = true) (kk : Rn d i (pc + 3) ls r (xup h k (.inr (e.2.2.1, fs.set e.2.2.2.1 x))) n v h' n') : Rn d i pc ls (x :: .ref k :: r) h n v h' n' := by
  obtain ⟨ins, len, r1, r2, v0, ps⟩ := e
  dsimp only at he hk hx hl
  subst he
  refine Rn.step1 hf rfl ?_ kk
  show xcO (h k) _ = _
  rw [hk]
  show xgd (Nat.beq r1 r1) (xgd (fits (xfty r1 r2) x) (xgd (Nat.blt r2 fs.length) _)) = _
  rw [hx, hl, Nat.beq_refl]
  rfl
/-- a call of an object's method, the object read by a row -/
theorem Rn.callO {e : xEn} {j ci b : Nat} {fs as r : List Value} {v1 : Option Value} {h1 : xHp} {n1 : Nat} (hf : xfind i pc = some e) {idx : Nat} (he : e.1 = .invokevirtual idx) (hd : st.drop e.2.2.2.1 = .ref b :: r) (hb : h b = .inr (ci, fs)) (hci : Nat.beq ci (xcm e.2.2.1) = true) (hl : Nat.ble e.2.2.2.1 st.length = true) (hw : Nat.ble (xcw r) 8 = true) (hw2 : Nat.ble (xcw (.ref b :: (st.take e.2.2.2.1).reverse)) (xMt e.2.2.1).2.2.1 = true) (has : .ref b :: (st.take e.2.2.2.1).reverse = as) (hj : e.2.2.1 = j)
    (hc : Rn d j 0 (lv_args 0 as) [] h n v1 h1 n1) (kk : Rn (d + 1) i (pc + 3) ls (v1.toList ++ r) h1 n1 v h' n') : Rn (d + 1) i pc ls st h n v h' n' := by
  obtain ⟨ins, len, r1, r2, v0, ps⟩ := e
  dsimp only at he hd hci hl hw2 has hj
  subst he; subst hj; subst has
  refine Rn.call hf rfl ?_ hc kk
  show xpR (st.drop r2) _ = _
  rw [hd]
  show xcO (h b) _ = _
  rw [hb]
  show xgd (Nat.ble r2 st.length) (xgd (Nat.ble (xcw r) 8) (xgd (Nat.beq ci (xcm r1)) (xgd (Nat.ble (xcw (.ref b :: (st.take r2).reverse)) (xMt r1).2.2.1) _))) = _
  rw [hl, hw, hci, hw2]
  rfl
/-- a loop that counts up -/
theorem xloop (P : Nat → Prop) (N : Nat) (hN : P N) (hs : ∀ c, c < N → P (c + 1) → P c) : P 0 := by
  have key : ∀ k, k ≤ N → P (N - k) := by
    intro k
    induction k with
    | zero => intro _; exact hN
    | succ k ih =>
      intro hk
      have := ih (by omega)
      exact hs (N - (k + 1)) (by omega) (by rw [show N - (k + 1) + 1 = N - k by omega]; exact this)
  have := key N (Nat.le_refl _)
  rwa [Nat.sub_self] at this
theorem xloopA (P : Nat → Prop) (a N : Nat) (ha : a ≤ N) (hN : P N) (hs : ∀ c, a ≤ c → c < N → P (c + 1) → P c) : P a := by
  have key : ∀ k, k ≤ N - a → P (N - k) := by
    intro k
    induction k with
    | zero => intro _; exact hN
    | succ k ih =>
      intro hk
      have := ih (by omega)
      exact hs (N - (k + 1)) (by omega) (by omega) (by rw [show N - (k + 1) + 1 = N - k by omega]; exact this)
  have := key (N - a) (Nat.le_refl _)
  rwa [show N - (N - a) = a by omega] at this
theorem Rn.l3 {a b c : Nat} {x y z : Value} (hab : (Nat.beq a b || (Nat.beq a c || Nat.beq b c)) = false) (h1 : xld ls a = some x) (h2 : xld ls b = some y) (h3 : xld ls c = some z) (kk : Rn d i pc [(a, x), (b, y), (c, z)] st h n v h' n') : Rn d i pc ls st h n v h' n' := by
  simp only [Bool.or_eq_false_iff] at hab
  have n1 := Nat.ne_of_beq_eq_false hab.1
  have n2 := Nat.ne_of_beq_eq_false hab.2.1
  have n3 := Nat.ne_of_beq_eq_false hab.2.2
  exact Rn.locals [(a, x), (b, y), (c, z)] (by simp [xnk, n1, n2, n3]) (by intro q hq; simp only [List.mem_cons, List.not_mem_nil, or_false] at hq; rcases hq with rfl | rfl | rfl <;> assumption) kk
theorem Rn.l4 {a b c e : Nat} {x y z u : Value} (hab : (List.Nodup [a, b, c, e])) (h1 : xld ls a = some x) (h2 : xld ls b = some y) (h3 : xld ls c = some z) (h4 : xld ls e = some u) (kk : Rn d i pc [(a, x), (b, y), (c, z), (e, u)] st h n v h' n') : Rn d i pc ls st h n v h' n' :=
  Rn.locals [(a, x), (b, y), (c, z), (e, u)] hab (by intro q hq; simp only [List.mem_cons, List.not_mem_nil, or_false] at hq; rcases hq with rfl | rfl | rfl | rfl <;> assumption) kk
theorem Rn.l5 {a b c e f : Nat} {x y z u t : Value} (hab : (List.Nodup [a, b, c, e, f])) (h1 : xld ls a = some x) (h2 : xld ls b = some y) (h3 : xld ls c = some z) (h4 : xld ls e = some u) (h5 : xld ls f = some t) (kk : Rn d i pc [(a, x), (b, y), (c, z), (e, u), (f, t)] st h n v h' n') : Rn d i pc ls st h n v h' n' :=
  Rn.locals [(a, x), (b, y), (c, z), (e, u), (f, t)] hab (by intro q hq; simp only [List.mem_cons, List.not_mem_nil, or_false] at hq; rcases hq with rfl | rfl | rfl | rfl | rfl <;> assumption) kk
end RN3
/-- the model's cells, laid over a heap: its rows A 0 .. A 6 (z, past, slots, isSaved, pad, places, told), its numbers w 0 .. w 4 (states, typed, placeMany, spot, toldMany) -/
def mOn (A : Nat → Nat → Int32) (w : Nat → Int32) (g : xHp) : xHp := fun k =>
  cond (Nat.beq k 139) (.inr (4, [.ref 140, .ref 141, .int (w 0), .ref 142, .ref 143, .ref 144, .int (w 1), .ref 145, .int (w 2), .int (w 3), .ref 146, .int (w 4)]))
  (cond (Nat.beq k 140) (.inl (0, 80, .inl (A 0)))
  (cond (Nat.beq k 141) (.inl (0, 480, .inl (A 1)))
  (cond (Nat.beq k 142) (.inl (0, 160, .inl (A 2)))
  (cond (Nat.beq k 143) (.inl (1, 2, .inl (A 3)))
  (cond (Nat.beq k 144) (.inl (0, 80, .inl (A 4)))
  (cond (Nat.beq k 145) (.inl (0, 11, .inl (A 5)))
  (cond (Nat.beq k 146) (.inl (0, 123, .inl (A 6))) (g k))))))))
def bi (b : Bool) : Int32 := cond b 1 0
theorem mOn_0 {A : Nat → Nat → Int32} {w : Nat → Int32} {g : xHp} {f : Nat → Int32} : xup (mOn A w g) 140 (.inl (0, 80, .inl f)) = mOn (va_up A 0 f) w g := by
  funext k
  by_cases hk : k = 140
  · subst hk; rfl
  · unfold xup
    rw [if_neg hk]
    have hb : Nat.beq k 140 = false := xbeq_no hk
    unfold mOn
    rw [hb]
    rfl
theorem mOn_1 {A : Nat → Nat → Int32} {w : Nat → Int32} {g : xHp} {f : Nat → Int32} : xup (mOn A w g) 141 (.inl (0, 480, .inl f)) = mOn (va_up A 1 f) w g := by
  funext k
  by_cases hk : k = 141
  · subst hk; rfl
  · unfold xup
    rw [if_neg hk]
    have hb : Nat.beq k 141 = false := xbeq_no hk
    unfold mOn
    rw [hb]
    rfl
theorem mOn_2 {A : Nat → Nat → Int32} {w : Nat → Int32} {g : xHp} {f : Nat → Int32} : xup (mOn A w g) 142 (.inl (0, 160, .inl f)) = mOn (va_up A 2 f) w g := by
  funext k
  by_cases hk : k = 142
  · subst hk; rfl
  · unfold xup
    rw [if_neg hk]
    have hb : Nat.beq k 142 = false := xbeq_no hk
    unfold mOn
    rw [hb]
    rfl
theorem mOn_3 {A : Nat → Nat → Int32} {w : Nat → Int32} {g : xHp} {f : Nat → Int32} : xup (mOn A w g) 143 (.inl (1, 2, .inl f)) = mOn (va_up A 3 f) w g := by
  funext k
  by_cases hk : k = 143
  · subst hk; rfl
  · unfold xup
    rw [if_neg hk]
    have hb : Nat.beq k 143 = false := xbeq_no hk
    unfold mOn
    rw [hb]
    rfl
theorem mOn_4 {A : Nat → Nat → Int32} {w : Nat → Int32} {g : xHp} {f : Nat → Int32} : xup (mOn A w g) 144 (.inl (0, 80, .inl f)) = mOn (va_up A 4 f) w g := by
  funext k
  by_cases hk : k = 144
  · subst hk; rfl
  · unfold xup
    rw [if_neg hk]
    have hb : Nat.beq k 144 = false := xbeq_no hk
    unfold mOn
    rw [hb]
    rfl
theorem mOn_5 {A : Nat → Nat → Int32} {w : Nat → Int32} {g : xHp} {f : Nat → Int32} : xup (mOn A w g) 145 (.inl (0, 11, .inl f)) = mOn (va_up A 5 f) w g := by
  funext k
  by_cases hk : k = 145
  · subst hk; rfl
  · unfold xup
    rw [if_neg hk]
    have hb : Nat.beq k 145 = false := xbeq_no hk
    unfold mOn
    rw [hb]
    rfl
theorem mOn_6 {A : Nat → Nat → Int32} {w : Nat → Int32} {g : xHp} {f : Nat → Int32} : xup (mOn A w g) 146 (.inl (0, 123, .inl f)) = mOn (va_up A 6 f) w g := by
  funext k
  by_cases hk : k = 146
  · subst hk; rfl
  · unfold xup
    rw [if_neg hk]
    have hb : Nat.beq k 146 = false := xbeq_no hk
    unfold mOn
    rw [hb]
    rfl
theorem mOn_w0 {A : Nat → Nat → Int32} {w : Nat → Int32} {g : xHp} {x : Int32} : xup (mOn A w g) 139 (.inr (4, [.ref 140, .ref 141, .int x, .ref 142, .ref 143, .ref 144, .int (w 1), .ref 145, .int (w 2), .int (w 3), .ref 146, .int (w 4)])) = mOn A (upd w 0 x) g := by
  funext k
  by_cases hk : k = 139
  · subst hk; rfl
  · unfold xup
    rw [if_neg hk]
    have hb : Nat.beq k 139 = false := xbeq_no hk
    unfold mOn
    rw [hb]
    rfl
theorem mOn_w1 {A : Nat → Nat → Int32} {w : Nat → Int32} {g : xHp} {x : Int32} : xup (mOn A w g) 139 (.inr (4, [.ref 140, .ref 141, .int (w 0), .ref 142, .ref 143, .ref 144, .int x, .ref 145, .int (w 2), .int (w 3), .ref 146, .int (w 4)])) = mOn A (upd w 1 x) g := by
  funext k
  by_cases hk : k = 139
  · subst hk; rfl
  · unfold xup
    rw [if_neg hk]
    have hb : Nat.beq k 139 = false := xbeq_no hk
    unfold mOn
    rw [hb]
    rfl
theorem mOn_w2 {A : Nat → Nat → Int32} {w : Nat → Int32} {g : xHp} {x : Int32} : xup (mOn A w g) 139 (.inr (4, [.ref 140, .ref 141, .int (w 0), .ref 142, .ref 143, .ref 144, .int (w 1), .ref 145, .int x, .int (w 3), .ref 146, .int (w 4)])) = mOn A (upd w 2 x) g := by
  funext k
  by_cases hk : k = 139
  · subst hk; rfl
  · unfold xup
    rw [if_neg hk]
    have hb : Nat.beq k 139 = false := xbeq_no hk
    unfold mOn
    rw [hb]
    rfl
theorem mOn_w3 {A : Nat → Nat → Int32} {w : Nat → Int32} {g : xHp} {x : Int32} : xup (mOn A w g) 139 (.inr (4, [.ref 140, .ref 141, .int (w 0), .ref 142, .ref 143, .ref 144, .int (w 1), .ref 145, .int (w 2), .int x, .ref 146, .int (w 4)])) = mOn A (upd w 3 x) g := by
  funext k
  by_cases hk : k = 139
  · subst hk; rfl
  · unfold xup
    rw [if_neg hk]
    have hb : Nat.beq k 139 = false := xbeq_no hk
    unfold mOn
    rw [hb]
    rfl
theorem mOn_w4 {A : Nat → Nat → Int32} {w : Nat → Int32} {g : xHp} {x : Int32} : xup (mOn A w g) 139 (.inr (4, [.ref 140, .ref 141, .int (w 0), .ref 142, .ref 143, .ref 144, .int (w 1), .ref 145, .int (w 2), .int (w 3), .ref 146, .int x])) = mOn A (upd w 4 x) g := by
  funext k
  by_cases hk : k = 139
  · subst hk; rfl
  · unfold xup
    rw [if_neg hk]
    have hb : Nat.beq k 139 = false := xbeq_no hk
    unfold mOn
    rw [hb]
    rfl
end
section
/-! the reference's methods that only look: what they answer -/
theorem bi_eq0 {b : Bool} (h : bi b = 0) : b = false := by cases b with | false => rfl | true => exact absurd h (by decide)
theorem bi_ne0 {b : Bool} (h : ¬ bi b = 0) : b = true := by cases b with | true => rfl | false => exact absurd rfl h
theorem xidx (c q : Nat) : (10 : Int32) + 7 * nI c + nI q = nI (10 + 7 * c + q) := by
  rw [show (10 : Int32) = nI 10 from rfl, show (7 : Int32) = nI 7 from rfl, pk_mul, nI_add, nI_add]
theorem xin10 {x : Int32} (h : 0 ≤ x ∧ x ≤ 9) : ∃ c : Nat, c < 10 ∧ x = nI c := by
  obtain ⟨j, hj, e⟩ := nI_of2 (M := 9) (n := 9) rfl (Int32.not_lt.mpr h.1) h.2
  exact ⟨j, by omega, e⟩
theorem xnc {c : Nat} (hc : c < 2 ^ 31) : (nI c).toNatClampNeg = c := nI_clamp hc
def rm (x y : Int32) : Int32 := x - x / y * y
def zt (z : Nat → Int32) (c : Nat) : Bool := decide (¬ z (10 + 7 * c) = -6)
def isC (z : Nat → Int32) (x : Int32) : Bool := decide (0 ≤ x ∧ x ≤ 9) && zt z x.toNatClampNeg
theorem isC_nI {z : Nat → Int32} {c : Nat} (hc : c < 10) : isC z (nI c) = zt z c := by
  unfold isC
  rw [decide_eq_true (⟨nI_pos' (by omega), nI_le (b := 9) (by omega) (by omega)⟩ : 0 ≤ nI c ∧ nI c ≤ 9), nI_clamp (by omega)]
  rfl
def mMany (z : Nat → Int32) : Nat → Int32 | 0 => 0 | c + 1 => mMany z c + bi (zt z c)
def mSum (z : Nat → Int32) (q : Nat) : Nat → Int32 | 0 => 0 | c + 1 => mSum z q c + cond (zt z c) (z (10 + 7 * c + q)) 0
def mIn (z : Nat → Int32) (p : Int32) : Nat → Int32 | 0 => -6 | c + 1 => cond (zt z c && decide (z (10 + 7 * c) = p)) (nI c) (mIn z p c)
def t32 (p : Int32) : Int32 := 4 * (p / 4) + rm (p + (if rm (p / 4) 2 = 0 then 1 else 3)) 4
def o32 (hn p : Int32) : Int32 := if rm p 4 = 0 then 4 * rm (p / 4 + 1) hn + 2 else if rm p 4 = 2 then 4 * rm (p / 4 + hn - 1) hn else p
section RN4
variable {d i pc : Nat} {ls : xLs} {st : List Value} {h h' : xHp} {n n' : Nat} {v : Option Value}
theorem Rn.irem {e : xEn} {x y : Int32} {r : List Value} (hf : xfind i pc = some e) (he : e.1 = .irem) (hy : ¬ y = 0) (kk : Rn d i (pc + 1) ls (.int (rm x y) :: r) h n v h' n') : Rn d i pc ls (.int y :: .int x :: r) h n v h' n' := by
  obtain ⟨ins, e2⟩ := e
  dsimp only at he
  subst he
  refine Rn.step1 hf rfl ?_ kk
  show xgp (¬ y = 0) _ = _
  rw [xgp_pos hy]
  rfl
theorem xnok_bi (b : Bool) : xnok .boolean (bi b) = true := by cases b <;> decide
theorem Rn.retZ {e : xEn} {b : Bool} (hf : xfind i pc = some e) (he : e.1 = .ireturn) (hty : (xMt i).2.2.2.1 = some .boolean) (hv : some (Value.int (bi b)) = v) (hh : h = h') : Rn d i pc ls [.int (bi b)] h n v h' n := by
  subst hv; subst hh
  obtain ⟨ins, e2⟩ := e
  dsimp only at he
  subst he
  refine Rn.ret hf rfl ?_
  show xgd true (match (xMt i).2.2.2.1 with | some ty => xgd (xnok ty (bi b)) (some (some (Value.int (bi b)))) | none => none) = _
  rw [hty]
  show xgd (xnok .boolean (bi b)) _ = _
  rw [xnok_bi]
  rfl
end RN4
section MODEL1
variable (d n : Nat) (A : Nat → Nat → Int32) (w : Nat → Int32) (g h : xHp)
theorem c_of1 (c q : Nat) (hc : c < 10) (hq : q < 7) : Rn d 89 0 [(0, .ref 139), (1, .int (nI c)), (2, .int (nI q))] [] (mOn A w g) n (some (.int (A 0 (10 + 7 * c + q)))) (mOn A w g) n := by
  refine Rn.steps 9 rfl ?_
  refine Rn.ialdN (m := 10 + 7 * c + q) rfl rfl rfl (xidx c q) (by omega) (by omega) ?_
  exact Rn.ret rfl rfl rfl
theorem c_in (x a b : Int32) : Rn d 88 0 [(0, .int x), (1, .int a), (2, .int b)] [] h n (some (.int (bi (decide (a ≤ x ∧ x ≤ b))))) h n := by
  refine Rn.br 3 rfl (fun hc => ?_) (fun hc => ?_)
  · refine Rn.steps 1 rfl ?_
    exact Rn.retE rfl rfl rfl (by rw [decide_eq_false (fun q => Int32.not_le.mpr hc q.1)]; rfl) rfl
  · refine Rn.br 3 rfl (fun hc2 => ?_) (fun hc2 => ?_)
    · refine Rn.steps 1 rfl ?_
      exact Rn.retE rfl rfl rfl (by rw [decide_eq_false (fun q => Int32.not_le.mpr hc2 q.2)]; rfl) rfl
    · refine Rn.steps 2 rfl ?_
      exact Rn.retE rfl rfl rfl (by rw [decide_eq_true (⟨Int32.not_lt.mp hc, Int32.not_lt.mp hc2⟩ : a ≤ x ∧ x ≤ b)]; rfl) rfl
theorem c_lay (c q : Nat) (x : Int32) (hc : c < 10) (hq : q < 7) : Rn d 86 0 [(0, .ref 139), (1, .int (nI c)), (2, .int (nI q)), (3, .int x)] [] (mOn A w g) n (none) (mOn (va_up A 0 (upd (A 0) (10 + 7 * c + q) x)) w g) n := by
  refine Rn.steps 10 rfl ?_
  refine Rn.iastN (m := 10 + 7 * c + q) rfl rfl rfl rfl (xidx c q) (by omega) (Nat.le_of_ble_eq_true rfl) ?_
  rw [mOn_0]
  exact Rn.retE rfl rfl rfl rfl rfl
theorem c_isCx (x : Int32) : Rn (d + 1) 90 0 [(0, .ref 139), (1, .int x)] [] (mOn A w g) n (some (.int (bi (isC (A 0) x)))) (mOn A w g) n := by
  refine Rn.steps 3 rfl ?_
  refine Rn.call rfl rfl rfl (c_in d n _ _ _ _) ?_
  refine Rn.br 1 rfl (fun hc7 => ?_) (fun hc7 => ?_)
  · have hb := bi_eq0 hc7
    refine Rn.steps 1 rfl ?_
    exact Rn.retE rfl rfl rfl (by first | (rw [hz]; rfl) | (unfold isC; rw [hb]; rfl)) rfl
  · have hb := bi_ne0 hc7
    obtain ⟨c, hc, rfl⟩ := xin10 (of_decide_eq_true hb)
    rw [isC_nI hc]
    refine Rn.steps 3 rfl ?_
    refine Rn.call rfl rfl rfl (c_of1 d n A w g c 0 hc (by omega)) ?_
    refine Rn.br 2 rfl (fun hc18 => ?_) (fun hc18 => ?_)
    · have hz : zt (A 0) c = false := decide_eq_false (fun q => q hc18)
      refine Rn.steps 1 rfl ?_
      exact Rn.retE rfl rfl rfl (by first | (rw [hz]; rfl) | (unfold isC; rw [hb]; rfl)) rfl
    · have hz : zt (A 0) c = true := decide_eq_true hc18
      refine Rn.steps 2 rfl ?_
      exact Rn.retE rfl rfl rfl (by first | (rw [hz]; rfl) | (unfold isC; rw [hb]; rfl)) rfl
theorem c_isC (c : Nat) (hc : c < 10) : Rn (d + 1) 90 0 [(0, .ref 139), (1, .int (nI c))] [] (mOn A w g) n (some (.int (bi (zt (A 0) c)))) (mOn A w g) n := by
  rw [← isC_nI hc]
  exact c_isCx d n A w g (nI c)
theorem c_horns : Rn d 91 0 [(0, .ref 139)] [] (mOn A w g) n (some (.int (2 * A 0 0))) (mOn A w g) n := by
  refine Rn.steps 4 rfl ?_
  refine Rn.ialdN (m := 0) rfl rfl rfl (rfl) (by omega) (Nat.le_of_ble_eq_true rfl) ?_
  refine Rn.steps 1 rfl ?_
  exact Rn.retE rfl rfl rfl rfl rfl
theorem c_many : Rn (d + 2) 92 0 [(0, .ref 139)] [] (mOn A w g) n (some (.int (mMany (A 0) 10))) (mOn A w g) n := by
  refine Rn.steps 4 rfl ?_
  refine Rn.l3 rfl rfl rfl rfl (xloop (fun c => Rn (d + 2) 92 4 [(0, .ref 139), (1, .int (mMany (A 0) c)), (2, .int (nI c))] [] (mOn A w g) n (some (.int (mMany (A 0) 10))) (mOn A w g) n) 10 ?_ (fun c hc ih => ?_))
  · refine Rn.steps 4 rfl ?_
    exact Rn.retE rfl rfl rfl rfl rfl
  · refine Rn.br 3 rfl (fun hc7 => ?_) (fun hc7 => ?_)
    · exact (nI_ge hc (by omega) hc7).elim
    · refine Rn.steps 3 rfl ?_
      refine Rn.call rfl rfl rfl (c_isC d n A w g c hc) ?_
      refine Rn.br 1 rfl (fun hc16 => ?_) (fun hc16 => ?_)
      · have hz := bi_eq0 hc16
        refine Rn.steps 5 rfl ?_
        exact Rn.l3 rfl rfl (by rw [mMany, hz]; rfl) (by rw [← nI_1]; rfl) ih
      · have hz := bi_ne0 hc16
        refine Rn.steps 6 rfl ?_
        exact Rn.l3 rfl rfl (by rw [mMany, hz]; rfl) (by rw [← nI_1]; rfl) ih
theorem c_sum (q : Nat) (hq : q < 7) : Rn (d + 2) 93 0 [(0, .ref 139), (1, .int (nI q))] [] (mOn A w g) n (some (.int (mSum (A 0) q 10))) (mOn A w g) n := by
  refine Rn.steps 4 rfl ?_
  refine Rn.l4 (by decide) rfl rfl rfl rfl (xloop (fun c => Rn (d + 2) 93 4 [(0, .ref 139), (1, .int (nI q)), (2, .int (mSum (A 0) q c)), (3, .int (nI c))] [] (mOn A w g) n (some (.int (mSum (A 0) q 10))) (mOn A w g) n) 10 ?_ (fun c hc ih => ?_))
  · refine Rn.steps 4 rfl ?_
    exact Rn.retE rfl rfl rfl rfl rfl
  · refine Rn.br 3 rfl (fun hc7 => ?_) (fun hc7 => ?_)
    · exact (nI_ge hc (by omega) hc7).elim
    · refine Rn.steps 3 rfl ?_
      refine Rn.call rfl rfl rfl (c_isC d n A w g c hc) ?_
      refine Rn.br 1 rfl (fun hc16 => ?_) (fun hc16 => ?_)
      · have hz := bi_eq0 hc16
        refine Rn.steps 5 rfl ?_
        exact Rn.l4 (by decide) rfl rfl (by rw [mSum, hz]; rfl) (by rw [← nI_1]; rfl) ih
      · have hz := bi_ne0 hc16
        refine Rn.steps 3 rfl ?_
        refine Rn.call rfl rfl rfl (c_of1 (d + 1) n A w g c q hc hq) ?_
        refine Rn.steps 5 rfl ?_
        exact Rn.l4 (by decide) rfl rfl (by rw [mSum, hz]; rfl) (by rw [← nI_1]; rfl) ih
theorem c_carrierIn (p : Int32) : Rn (d + 2) 94 0 [(0, .ref 139), (1, .int p)] [] (mOn A w g) n (some (.int (mIn (A 0) p 10))) (mOn A w g) n := by
  refine Rn.steps 4 rfl ?_
  refine Rn.l4 (by decide) rfl rfl rfl rfl (xloop (fun c => Rn (d + 2) 94 5 [(0, .ref 139), (1, .int p), (2, .int (mIn (A 0) p c)), (3, .int (nI c))] [] (mOn A w g) n (some (.int (mIn (A 0) p 10))) (mOn A w g) n) 10 ?_ (fun c hc ih => ?_))
  · refine Rn.steps 4 rfl ?_
    exact Rn.retE rfl rfl rfl rfl rfl
  · refine Rn.br 3 rfl (fun hc8 => ?_) (fun hc8 => ?_)
    · exact (nI_ge hc (by omega) hc8).elim
    · refine Rn.steps 2 rfl ?_
      refine Rn.call rfl rfl rfl (c_isC d n A w g c hc) ?_
      refine Rn.br 1 rfl (fun hc16 => ?_) (fun hc16 => ?_)
      · have hz : (zt (A 0) c && decide (A 0 (10 + 7 * c) = p)) = false := by rw [bi_eq0 hc16]; rfl
        refine Rn.steps 4 rfl ?_
        exact Rn.l4 (by decide) rfl rfl (by rw [mIn, hz]; rfl) (by rw [← nI_1]; rfl) ih
      · have hz0 := bi_ne0 hc16
        refine Rn.steps 3 rfl ?_
        refine Rn.call rfl rfl rfl (c_of1 (d + 1) n A w g c 0 hc (by omega)) ?_
        refine Rn.br 2 rfl (fun hc26 => ?_) (fun hc26 => ?_)
        · have hz : (zt (A 0) c && decide (A 0 (10 + 7 * c) = p)) = true := by rw [hz0, decide_eq_true (show A 0 (10 + 7 * c) = p from hc26)]; rfl
          refine Rn.steps 5 rfl ?_
          exact Rn.l4 (by decide) rfl rfl (by rw [mIn, hz]; rfl) (by rw [← nI_1]; rfl) ih
        · have hz : (zt (A 0) c && decide (A 0 (10 + 7 * c) = p)) = false := by rw [hz0, decide_eq_false (show ¬ A 0 (10 + 7 * c) = p from hc26)]; rfl
          refine Rn.steps 4 rfl ?_
          exact Rn.l4 (by decide) rfl rfl (by rw [mIn, hz]; rfl) (by rw [← nI_1]; rfl) ih
theorem c_turned (p : Int32) : Rn d 101 0 [(0, .int p)] [] h n (some (.int (t32 p))) h n := by
  refine Rn.br 12 rfl (fun hc11 => ?_) (fun hc11 => ?_)
  · refine Rn.steps 6 rfl ?_
    exact Rn.retE rfl rfl rfl (by unfold t32; rw [show rm (p / 4) 2 = p / 4 - p / 4 / 2 * 2 from rfl]; first | (rw [if_pos hc11]; rfl) | (rw [if_neg hc11]; rfl)) rfl
  · refine Rn.steps 5 rfl ?_
    exact Rn.retE rfl rfl rfl (by unfold t32; rw [show rm (p / 4) 2 = p / 4 - p / 4 / 2 * 2 from rfl]; first | (rw [if_pos hc11]; rfl) | (rw [if_neg hc11]; rfl)) rfl
theorem c_otherSide (hne : ¬ 2 * A 0 0 = 0) (p : Int32) : Rn (d + 1) 100 0 [(0, .ref 139), (1, .int p)] [] (mOn A w g) n (some (.int (o32 (2 * A 0 0) p))) (mOn A w g) n := by
  refine Rn.br 10 rfl (fun hc9 => ?_) (fun hc9 => ?_)
  · refine Rn.steps 5 rfl ?_
    refine Rn.call rfl rfl rfl (c_horns d n A w g) ?_
    refine Rn.irem rfl rfl hne ?_
    refine Rn.steps 3 rfl ?_
    exact Rn.retE rfl rfl rfl (by unfold o32; rw [if_pos (show rm p 4 = 0 from hc9)]) rfl
  · refine Rn.br 3 rfl (fun hc27 => ?_) (fun hc27 => ?_)
    · refine Rn.steps 3 rfl ?_
      refine Rn.call rfl rfl rfl (c_horns d n A w g) ?_
      refine Rn.steps 4 rfl ?_
      refine Rn.call rfl rfl rfl (c_horns d n A w g) ?_
      refine Rn.irem rfl rfl hne ?_
      refine Rn.steps 2 rfl ?_
      exact Rn.retE rfl rfl rfl (by unfold o32; rw [if_neg (show ¬ rm p 4 = 0 from hc9)]; first | (rw [if_pos (show rm p 4 = 2 from hc27)]) | (rw [if_neg (show ¬ rm p 4 = 2 from hc27)])) rfl
    · refine Rn.steps 1 rfl ?_
      exact Rn.retE rfl rfl rfl (by unfold o32; rw [if_neg (show ¬ rm p 4 = 0 from hc9)]; first | (rw [if_pos (show rm p 4 = 2 from hc27)]) | (rw [if_neg (show ¬ rm p 4 = 2 from hc27)])) rfl
end MODEL1
end
section
/-! the reference's methods that look at all carriers and places -/
def isPl (hn x q : Int32) : Bool := decide (0 ≤ x ∧ x ≤ hn - 1) && decide (0 ≤ q ∧ q ≤ 3)
def isFr (z : Nat → Int32) (p : Int32) : Bool := decide (mIn z p 10 = -6) && decide (mIn z (o32 (2 * z 0) p) 10 = -6)
def whyNC (z : Nat → Int32) (x q : Int32) : Int32 := cond (isPl (2 * z 0) x q) (cond (isFr z (4 * x + q)) (if mMany z 10 = 10 then -4 else 0) (-5)) (-1)
def isV (s x : Int32) : Bool := if s = 0 then decide (2 ≤ x ∧ x ≤ 6) else if s = 1 then decide (1 ≤ x ∧ x ≤ 9) else decide (s = 2) && decide (1 ≤ x ∧ x ≤ 999)
def wnr (z : Nat → Int32) (s : Int32) : Int32 := cond (decide (1 ≤ s ∧ s ≤ 99)) (if z 3 + s ≤ 9999 then 0 else -5) (-2)
def wne (z : Nat → Int32) (x e : Int32) : Int32 := cond (isC z x) (if z (10 + 7 * x.toNatClampNeg + 2) = e then 0 else -5) (-1)
def mEmp (z : Nat → Int32) : Nat → Bool | 0 => false | c + 1 => mEmp z c || (zt z c && decide (z (10 + 7 * c + 1) = 0))
def mLeast (z : Nat → Int32) : Nat → Int32 | 0 => 999 | c + 1 => cond (zt z c && decide (z (10 + 7 * c + 1) < mLeast z c)) (z (10 + 7 * c + 1)) (mLeast z c)
def mSet (z : Nat → Int32) : Nat → Int32 | 0 => 0 | c + 1 => mSet z c ||| cond (zt z c) (1 <<< (nI c &&& 31)) 0
def mAr (z : Nat → Int32) (rk : Int32) : Nat → Int32 × Int32 | 0 => (-1, 0) | c + 1 => (cond (decide (¬ mIn z (nI c) 10 = -6) && decide ((mAr z rk c).2 = rk)) (mIn z (nI c) 10) (mAr z rk c).1, (mAr z rk c).2 + (if mIn z (nI c) 10 = -6 then 0 else 1))
def tpm (z : Nat → Int32) : Nat → Nat | 0 => 0 | c + 1 => cond (zt z c) (tpm z c + 1) (tpm z c)
def tpl (z pl : Nat → Int32) : Nat → Nat → Int32 | 0 => pl | c + 1 => cond (zt z c) (upd (tpl z pl c) (tpm z c) (z (10 + 7 * c))) (tpl z pl c)
theorem tpm_le (z : Nat → Int32) (c : Nat) : tpm z c ≤ c := by
  induction c with
  | zero => exact Nat.le_refl _
  | succ c ih => unfold tpm; cases zt z c <;> simp only [cond] <;> omega
def mTk (pl : Nat → Int32) (p : Int32) : Nat → Bool | 0 => false | k + 1 => mTk pl p k || decide (pl k = p)
def mHr (pl : Nat → Int32) (hn ct : Int32) : Nat → Int32 | 0 => 0 | k + 1 => mHr pl hn ct k + (if t32 (pl k) = 4 * ct ∨ t32 (pl k) = o32 hn (4 * ct) then 1 else 0)
def mMt (pl : Nat → Int32) (m H : Nat) (hn : Int32) : Nat → Int32 | 0 => -6 | j + 1 => if mHr pl hn (nI (H - (j + 1))) m = 2 then nI (H - (j + 1)) else mMt pl m H hn j
def sPl (hn : Int32) (pl : Nat → Int32) (k : Nat) : Nat → Int32 := fun j => if j < k then o32 hn (t32 (pl j)) else pl j
def mAb (z pl : Nat → Int32) (m : Nat) : Nat → Bool | 0 => true | c + 1 => mAb z pl m c && (!zt z c || mTk pl (z (10 + 7 * c)) m)
def mCt (z pl : Nat → Int32) (p : Int32) : Nat → Int32 × Nat | 0 => (-6, 0) | c + 1 => cond (zt z c) (if t32 (pl (mCt z pl p c).2) = p then nI c else (mCt z pl p c).1, (mCt z pl p c).2 + 1) (mCt z pl p c)
theorem mCt_le (z pl : Nat → Int32) (p : Int32) (c : Nat) : (mCt z pl p c).2 = tpm z c := by
  induction c with
  | zero => rfl
  | succ c ih => unfold mCt tpm; cases zt z c <;> simp only [cond] <;> omega
theorem upd_upd {f : Nat → Int32} {k : Nat} {x y : Int32} : upd (upd f k x) k y = upd f k y := by
  funext j
  unfold upd
  by_cases hj : j = k
  · rw [if_pos hj, if_pos hj]
  · rw [if_neg hj, if_neg hj, if_neg hj]
theorem sPl_s (hn : Int32) (pl : Nat → Int32) (k : Nat) : upd (sPl hn pl k) k (o32 hn (t32 (pl k))) = sPl hn pl (k + 1) := by
  funext j
  unfold upd sPl
  by_cases hj : j = k
  · subst hj; rw [if_pos rfl, if_pos (Nat.lt_succ_self _)]
  · rw [if_neg hj]
    by_cases h2 : j < k
    · rw [if_pos h2, if_pos (by omega)]
    · rw [if_neg h2, if_neg (by omega)]
theorem sPl_k (hn : Int32) (pl : Nat → Int32) (k : Nat) : sPl hn pl k k = pl k := if_neg (Nat.lt_irrefl k)
theorem sPl_0 (hn : Int32) (pl : Nat → Int32) : sPl hn pl 0 = pl := rfl
theorem x8P {P : Nat} : (4 : Int32) * (2 * nI P) = nI (8 * P) := by
  rw [show (2 : Int32) = nI 2 from rfl, show (4 : Int32) = nI 4 from rfl, pk_mul, pk_mul]
  congr 1
  omega
theorem x2P {P : Nat} : (2 : Int32) * nI P = nI (2 * P) := by rw [show (2 : Int32) = nI 2 from rfl, pk_mul]
theorem x2ne {P : Nat} {x : Int32} (h : x = nI P) (h2 : 2 ≤ P) (h6 : P ≤ 6) : ¬ 2 * x = 0 := by
  rw [h, x2P]
  exact nI_ne0 (by omega) (by omega)
section MODEL2
variable (d n : Nat) (A : Nat → Nat → Int32) (w : Nat → Int32) (g h : xHp)
theorem c_isPlace (x q : Int32) : Rn (d + 1) 108 0 [(0, .ref 139), (1, .int x), (2, .int q)] [] (mOn A w g) n (some (.int (bi (isPl (2 * A 0 0) x q)))) (mOn A w g) n := by
  refine Rn.steps 3 rfl ?_
  refine Rn.call rfl rfl rfl (c_horns d n A w g) ?_
  refine Rn.steps 2 rfl ?_
  refine Rn.call rfl rfl rfl (c_in d n _ _ _ _) ?_
  refine Rn.br 1 rfl (fun hc11 => ?_) (fun hc11 => ?_)
  · have hb := bi_eq0 hc11
    refine Rn.steps 1 rfl ?_
    exact Rn.retE rfl rfl rfl (by unfold isPl; rw [hb]; first | rfl | (rw [hb2]; rfl)) rfl
  · have hb := bi_ne0 hc11
    refine Rn.steps 3 rfl ?_
    refine Rn.call rfl rfl rfl (c_in d n _ _ _ _) ?_
    refine Rn.br 1 rfl (fun hc20 => ?_) (fun hc20 => ?_)
    · have hb2 := bi_eq0 hc20
      refine Rn.steps 1 rfl ?_
      exact Rn.retE rfl rfl rfl (by unfold isPl; rw [hb]; first | rfl | (rw [hb2]; rfl)) rfl
    · have hb2 := bi_ne0 hc20
      refine Rn.steps 2 rfl ?_
      exact Rn.retE rfl rfl rfl (by unfold isPl; rw [hb]; first | rfl | (rw [hb2]; rfl)) rfl
theorem c_isFree (hne : ¬ 2 * A 0 0 = 0) (p : Int32) : Rn (d + 3) 109 0 [(0, .ref 139), (1, .int p)] [] (mOn A w g) n (some (.int (bi (isFr (A 0) p)))) (mOn A w g) n := by
  refine Rn.steps 2 rfl ?_
  refine Rn.call rfl rfl rfl (c_carrierIn d n A w g p) ?_
  refine Rn.br 2 rfl (fun hc7 => ?_) (fun hc7 => ?_)
  · have hb : decide (mIn (A 0) p 10 = -6) = true := decide_eq_true hc7
    refine Rn.steps 3 rfl ?_
    refine Rn.call rfl rfl rfl (c_otherSide (d + 1) n A w g hne p) ?_
    refine Rn.call rfl rfl rfl (c_carrierIn d n A w g _) ?_
    refine Rn.br 2 rfl (fun hc21 => ?_) (fun hc21 => ?_)
    · have hb2 : decide (mIn (A 0) (o32 (2 * A 0 0) p) 10 = -6) = true := decide_eq_true hc21
      refine Rn.steps 2 rfl ?_
      exact Rn.retE rfl rfl rfl (by unfold isFr; rw [hb]; first | rfl | (rw [hb2]; rfl)) rfl
    · have hb2 : decide (mIn (A 0) (o32 (2 * A 0 0) p) 10 = -6) = false := decide_eq_false hc21
      refine Rn.steps 1 rfl ?_
      exact Rn.retE rfl rfl rfl (by unfold isFr; rw [hb]; first | rfl | (rw [hb2]; rfl)) rfl
  · have hb : decide (mIn (A 0) p 10 = -6) = false := decide_eq_false hc7
    refine Rn.steps 1 rfl ?_
    exact Rn.retE rfl rfl rfl (by unfold isFr; rw [hb]; first | rfl | (rw [hb2]; rfl)) rfl
theorem c_whyNotCarrier (hne : ¬ 2 * A 0 0 = 0) (x q : Int32) : Rn (d + 4) 110 0 [(0, .ref 139), (1, .int x), (2, .int q)] [] (mOn A w g) n (some (.int (whyNC (A 0) x q))) (mOn A w g) n := by
  refine Rn.steps 3 rfl ?_
  refine Rn.call rfl rfl rfl (c_isPlace (d + 2) n A w g x q) ?_
  refine Rn.br 1 rfl (fun hc6 => ?_) (fun hc6 => ?_)
  · have hb := bi_eq0 hc6
    refine Rn.steps 2 rfl ?_
    exact Rn.retE rfl rfl rfl (by unfold whyNC; rw [hb]; first | rfl | (rw [hb2]; first | rfl | (simp only [cond]; first | (rw [if_pos hc36]) | (rw [if_neg hc36])))) rfl
  · have hb := bi_ne0 hc6
    refine Rn.steps 6 rfl ?_
    refine Rn.call rfl rfl rfl (c_isFree d n A w g hne _) ?_
    refine Rn.br 1 rfl (fun hc22 => ?_) (fun hc22 => ?_)
    · have hb2 := bi_eq0 hc22
      refine Rn.steps 2 rfl ?_
      exact Rn.retE rfl rfl rfl (by unfold whyNC; rw [hb]; first | rfl | (rw [hb2]; first | rfl | (simp only [cond]; first | (rw [if_pos hc36]) | (rw [if_neg hc36])))) rfl
    · have hb2 := bi_ne0 hc22
      refine Rn.steps 1 rfl ?_
      refine Rn.call rfl rfl rfl (c_many (d + 1) n A w g) ?_
      refine Rn.br 2 rfl (fun hc36 => ?_) (fun hc36 => ?_)
      · refine Rn.steps 2 rfl ?_
        exact Rn.retE rfl rfl rfl (by unfold whyNC; rw [hb]; first | rfl | (rw [hb2]; first | rfl | (simp only [cond]; first | (rw [if_pos hc36]) | (rw [if_neg hc36])))) rfl
      · refine Rn.steps 1 rfl ?_
        exact Rn.retE rfl rfl rfl (by unfold whyNC; rw [hb]; first | rfl | (rw [hb2]; first | rfl | (simp only [cond]; first | (rw [if_pos hc36]) | (rw [if_neg hc36])))) rfl
theorem c_isValue (s x : Int32) : Rn (d + 1) 106 0 [(0, .int s), (1, .int x)] [] h n (some (.int (bi (isV s x)))) h n := by
  refine Rn.br 2 rfl (fun hc1 => ?_) (fun hc1 => ?_)
  · refine Rn.steps 3 rfl ?_
    refine Rn.call rfl rfl rfl (c_in d n _ _ _ _) ?_
    refine Rn.steps 1 rfl ?_
    exact Rn.retZ rfl rfl rfl (by unfold isV; first | (rw [if_pos hc1]) | (rw [if_neg hc1]; first | (rw [if_pos hc16]) | (rw [if_neg hc16]; first | (rw [decide_eq_true hc31, hb]; rfl) | (rw [decide_eq_false hc31]; rfl)))) rfl
  · refine Rn.br 3 rfl (fun hc16 => ?_) (fun hc16 => ?_)
    · refine Rn.steps 3 rfl ?_
      refine Rn.call rfl rfl rfl (c_in d n _ _ _ _) ?_
      refine Rn.steps 1 rfl ?_
      exact Rn.retZ rfl rfl rfl (by unfold isV; first | (rw [if_pos hc1]) | (rw [if_neg hc1]; first | (rw [if_pos hc16]) | (rw [if_neg hc16]; first | (rw [decide_eq_true hc31, hb]; rfl) | (rw [decide_eq_false hc31]; rfl)))) rfl
    · refine Rn.br 3 rfl (fun hc31 => ?_) (fun hc31 => ?_)
      · refine Rn.steps 3 rfl ?_
        refine Rn.call rfl rfl rfl (c_in d n _ _ _ _) ?_
        refine Rn.br 1 rfl (fun hc42 => ?_) (fun hc42 => ?_)
        · have hb := bi_eq0 hc42
          refine Rn.steps 1 rfl ?_
          exact Rn.retE rfl rfl rfl (by unfold isV; first | (rw [if_pos hc1]) | (rw [if_neg hc1]; first | (rw [if_pos hc16]) | (rw [if_neg hc16]; first | (rw [decide_eq_true hc31, hb]; rfl) | (rw [decide_eq_false hc31]; rfl)))) rfl
        · have hb := bi_ne0 hc42
          refine Rn.steps 2 rfl ?_
          exact Rn.retE rfl rfl rfl (by unfold isV; first | (rw [if_pos hc1]) | (rw [if_neg hc1]; first | (rw [if_pos hc16]) | (rw [if_neg hc16]; first | (rw [decide_eq_true hc31, hb]; rfl) | (rw [decide_eq_false hc31]; rfl)))) rfl
      · refine Rn.steps 1 rfl ?_
        exact Rn.retE rfl rfl rfl (by unfold isV; first | (rw [if_pos hc1]) | (rw [if_neg hc1]; first | (rw [if_pos hc16]) | (rw [if_neg hc16]; first | (rw [decide_eq_true hc31, hb]; rfl) | (rw [decide_eq_false hc31]; rfl)))) rfl
theorem c_whyNotRun (s : Int32) : Rn (d + 1) 119 0 [(0, .ref 139), (1, .int s)] [] (mOn A w g) n (some (.int (wnr (A 0) s))) (mOn A w g) n := by
  refine Rn.steps 3 rfl ?_
  refine Rn.call rfl rfl rfl (c_in d n _ _ _ _) ?_
  refine Rn.br 1 rfl (fun hc7 => ?_) (fun hc7 => ?_)
  · have hb := bi_eq0 hc7
    refine Rn.steps 2 rfl ?_
    exact Rn.retE rfl rfl rfl (by unfold wnr; rw [hb]; first | rfl | (simp only [cond]; first | (rw [if_pos hc26]) | (rw [if_neg hc26]))) rfl
  · have hb := bi_ne0 hc7
    refine Rn.steps 3 rfl ?_
    refine Rn.ialdN (m := 3) rfl rfl rfl (rfl) (by omega) (Nat.le_of_ble_eq_true rfl) ?_
    refine Rn.br 4 rfl (fun hc26 => ?_) (fun hc26 => ?_)
    · refine Rn.steps 1 rfl ?_
      exact Rn.retE rfl rfl rfl (by unfold wnr; rw [hb]; first | rfl | (simp only [cond]; first | (rw [if_pos hc26]) | (rw [if_neg hc26]))) rfl
    · refine Rn.steps 2 rfl ?_
      exact Rn.retE rfl rfl rfl (by unfold wnr; rw [hb]; first | rfl | (simp only [cond]; first | (rw [if_pos hc26]) | (rw [if_neg hc26]))) rfl
theorem c_whyNotEnd (x e : Int32) : Rn (d + 2) 122 0 [(0, .ref 139), (1, .int x), (2, .int e)] [] (mOn A w g) n (some (.int (wne (A 0) x e))) (mOn A w g) n := by
  refine Rn.steps 2 rfl ?_
  refine Rn.call rfl rfl rfl (c_isCx d n A w g x) ?_
  refine Rn.br 1 rfl (fun hc5 => ?_) (fun hc5 => ?_)
  · have hb := bi_eq0 hc5
    refine Rn.steps 2 rfl ?_
    exact Rn.retE rfl rfl rfl (by unfold wne; rw [hb]; first | rfl | (simp only [cond]; rw [nI_clamp (by omega)]; first | (rw [if_pos hc19]) | (rw [if_neg hc19]))) rfl
  · have hb := bi_ne0 hc5
    have hb3 := hb
    unfold isC at hb3
    obtain ⟨hb4, hb5⟩ := (Bool.and_eq_true _ _ ▸ hb3 : _ ∧ _)
    obtain ⟨c, hc, rfl⟩ := xin10 (of_decide_eq_true hb4)
    refine Rn.steps 3 rfl ?_
    refine Rn.call rfl rfl rfl (c_of1 (d + 1) n A w g c 2 hc (by omega)) ?_
    refine Rn.br 2 rfl (fun hc19 => ?_) (fun hc19 => ?_)
    · refine Rn.steps 2 rfl ?_
      exact Rn.retE rfl rfl rfl (by unfold wne; rw [hb]; first | rfl | (simp only [cond]; rw [nI_clamp (by omega)]; first | (rw [if_pos hc19]) | (rw [if_neg hc19]))) rfl
    · refine Rn.steps 1 rfl ?_
      exact Rn.retE rfl rfl rfl (by unfold wne; rw [hb]; first | rfl | (simp only [cond]; rw [nI_clamp (by omega)]; first | (rw [if_pos hc19]) | (rw [if_neg hc19]))) rfl
theorem c_isEmpty : Rn (d + 2) 116 0 [(0, .ref 139)] [] (mOn A w g) n (some (.int (bi (mEmp (A 0) 10)))) (mOn A w g) n := by
  refine Rn.steps 4 rfl ?_
  refine Rn.l3 rfl rfl rfl rfl (xloop (fun c => Rn (d + 2) 116 4 [(0, .ref 139), (1, .int (bi (mEmp (A 0) c))), (2, .int (nI c))] [] (mOn A w g) n (some (.int (bi (mEmp (A 0) 10)))) (mOn A w g) n) 10 ?_ (fun c hc ih => ?_))
  · refine Rn.steps 4 rfl ?_
    exact Rn.retZ rfl rfl rfl rfl rfl
  · refine Rn.br 3 rfl (fun hc7 => ?_) (fun hc7 => ?_)
    · exact (nI_ge hc (by omega) hc7).elim
    · refine Rn.br 2 rfl (fun hc11 => ?_) (fun hc11 => ?_)
      · have hb := bi_eq0 hc11
        refine Rn.steps 2 rfl ?_
        refine Rn.call rfl rfl rfl (c_isC d n A w g c hc) ?_
        refine Rn.br 1 rfl (fun hc19 => ?_) (fun hc19 => ?_)
        · have hz : (mEmp (A 0) c || (zt (A 0) c && decide (A 0 (10 + 7 * c + 1) = 0))) = false := by rw [hb, bi_eq0 hc19]; rfl
          refine Rn.steps 4 rfl ?_
          exact Rn.l3 rfl rfl (by rw [mEmp, hz]; rfl) (by rw [← nI_1]; rfl) ih
        · have hb2 := bi_ne0 hc19
          refine Rn.steps 3 rfl ?_
          refine Rn.call rfl rfl rfl (c_of1 (d + 1) n A w g c 1 hc (by omega)) ?_
          refine Rn.br 1 rfl (fun hc28 => ?_) (fun hc28 => ?_)
          · have hz : (mEmp (A 0) c || (zt (A 0) c && decide (A 0 (10 + 7 * c + 1) = 0))) = true := by rw [hb, hb2, decide_eq_true hc28]; rfl
            refine Rn.steps 5 rfl ?_
            exact Rn.l3 rfl rfl (by rw [mEmp, hz]; rfl) (by rw [← nI_1]; rfl) ih
          · have hz : (mEmp (A 0) c || (zt (A 0) c && decide (A 0 (10 + 7 * c + 1) = 0))) = false := by rw [hb, hb2, decide_eq_false hc28]; rfl
            refine Rn.steps 4 rfl ?_
            exact Rn.l3 rfl rfl (by rw [mEmp, hz]; rfl) (by rw [← nI_1]; rfl) ih
      · have hz : (mEmp (A 0) c || (zt (A 0) c && decide (A 0 (10 + 7 * c + 1) = 0))) = true := by rw [bi_ne0 hc11]; rfl
        refine Rn.steps 5 rfl ?_
        exact Rn.l3 rfl rfl (by rw [mEmp, hz]; rfl) (by rw [← nI_1]; rfl) ih
theorem c_leastElls : Rn (d + 2) 141 0 [(0, .ref 139)] [] (mOn A w g) n (some (.int (mLeast (A 0) 10))) (mOn A w g) n := by
  refine Rn.steps 4 rfl ?_
  refine Rn.l3 rfl rfl rfl rfl (xloop (fun c => Rn (d + 2) 141 6 [(0, .ref 139), (1, .int (mLeast (A 0) c)), (2, .int (nI c))] [] (mOn A w g) n (some (.int (mLeast (A 0) 10))) (mOn A w g) n) 10 ?_ (fun c hc ih => ?_))
  · refine Rn.steps 4 rfl ?_
    exact Rn.retE rfl rfl rfl rfl rfl
  · refine Rn.br 3 rfl (fun hc9 => ?_) (fun hc9 => ?_)
    · exact (nI_ge hc (by omega) hc9).elim
    · refine Rn.steps 2 rfl ?_
      refine Rn.call rfl rfl rfl (c_isC d n A w g c hc) ?_
      refine Rn.br 1 rfl (fun hc17 => ?_) (fun hc17 => ?_)
      · have hz : (zt (A 0) c && decide (A 0 (10 + 7 * c + 1) < mLeast (A 0) c)) = false := by rw [bi_eq0 hc17]; rfl
        refine Rn.steps 4 rfl ?_
        exact Rn.l3 rfl rfl (by rw [mLeast, hz]; rfl) (by rw [← nI_1]; rfl) ih
      · have hb := bi_ne0 hc17
        refine Rn.steps 3 rfl ?_
        refine Rn.call rfl rfl rfl (c_of1 (d + 1) n A w g c 1 hc (by omega)) ?_
        refine Rn.br 2 rfl (fun hc27 => ?_) (fun hc27 => ?_)
        · have hz : (zt (A 0) c && decide (A 0 (10 + 7 * c + 1) < mLeast (A 0) c)) = false := by rw [hb, decide_eq_false (Int32.not_lt.mpr hc27)]; rfl
          refine Rn.steps 4 rfl ?_
          exact Rn.l3 rfl rfl (by rw [mLeast, hz]; rfl) (by rw [← nI_1]; rfl) ih
        · have hz : (zt (A 0) c && decide (A 0 (10 + 7 * c + 1) < mLeast (A 0) c)) = true := by rw [hb, decide_eq_true (Int32.not_le.mp hc27)]; rfl
          refine Rn.steps 3 rfl ?_
          refine Rn.call rfl rfl rfl (c_of1 (d + 1) n A w g c 1 hc (by omega)) ?_
          refine Rn.steps 4 rfl ?_
          exact Rn.l3 rfl rfl (by rw [mLeast, hz]; rfl) (by rw [← nI_1]; rfl) ih
theorem c_set0 : Rn (d + 2) 131 0 [(0, .ref 139)] [] (mOn A w g) n (some (.int (mSet (A 0) 10))) (mOn A w g) n := by
  refine Rn.steps 4 rfl ?_
  refine Rn.l3 rfl rfl rfl rfl (xloop (fun c => Rn (d + 2) 131 4 [(0, .ref 139), (1, .int (mSet (A 0) c)), (2, .int (nI c))] [] (mOn A w g) n (some (.int (mSet (A 0) 10))) (mOn A w g) n) 10 ?_ (fun c hc ih => ?_))
  · refine Rn.steps 4 rfl ?_
    exact Rn.retE rfl rfl rfl rfl rfl
  · refine Rn.br 3 rfl (fun hc7 => ?_) (fun hc7 => ?_)
    · exact (nI_ge hc (by omega) hc7).elim
    · refine Rn.steps 3 rfl ?_
      refine Rn.call rfl rfl rfl (c_isC d n A w g c hc) ?_
      refine Rn.br 1 rfl (fun hc16 => ?_) (fun hc16 => ?_)
      · have hz := bi_eq0 hc16
        refine Rn.steps 5 rfl ?_
        exact Rn.l3 rfl rfl (by rw [mSet, hz]; rfl) (by rw [← nI_1]; rfl) ih
      · have hz := bi_ne0 hc16
        refine Rn.steps 8 rfl ?_
        exact Rn.l3 rfl rfl (by rw [mSet, hz]; rfl) (by rw [← nI_1]; rfl) ih
theorem c_at (x q : Int32) : Rn (d + 3) 129 0 [(0, .ref 139), (1, .int x), (2, .int q)] [] (mOn A w g) n (some (.int (cond (isPl (2 * A 0 0) x q) (mIn (A 0) (4 * x + q) 10) (-1)))) (mOn A w g) n := by
  refine Rn.steps 3 rfl ?_
  refine Rn.call rfl rfl rfl (c_isPlace (d + 1) n A w g x q) ?_
  refine Rn.br 1 rfl (fun hc6 => ?_) (fun hc6 => ?_)
  · have hb := bi_eq0 hc6
    refine Rn.steps 1 rfl ?_
    exact Rn.retE rfl rfl rfl (by rw [hb]; rfl) rfl
  · have hb := bi_ne0 hc6
    refine Rn.steps 6 rfl ?_
    refine Rn.call rfl rfl rfl (c_carrierIn d n A w g _) ?_
    refine Rn.steps 1 rfl ?_
    exact Rn.retE rfl rfl rfl (by rw [hb]; rfl) rfl
theorem c_around (rk : Int32) (P : Nat) (hP : A 0 0 = nI P) (h6 : P ≤ 6) : Rn (d + 3) 130 0 [(0, .ref 139), (1, .int rk)] [] (mOn A w g) n (some (.int (mAr (A 0) rk (8 * P)).1)) (mOn A w g) n := by
  refine Rn.steps 6 rfl ?_
  refine Rn.l5 (by decide) rfl rfl rfl rfl rfl (xloop (fun c => Rn (d + 3) 130 7 [(0, .ref 139), (1, .int rk), (2, .int (mAr (A 0) rk c).1), (3, .int (mAr (A 0) rk c).2), (4, .int (nI c))] [] (mOn A w g) n (some (.int (mAr (A 0) rk (8 * P)).1)) (mOn A w g) n) (8 * P) ?_ (fun c hc ih => ?_))
  · refine Rn.steps 3 rfl ?_
    refine Rn.call rfl rfl rfl (c_horns (d + 2) n A w g) ?_
    refine Rn.br 2 rfl (fun hc15 => ?_) (fun hc15 => ?_)
    · refine Rn.steps 1 rfl ?_
      exact Rn.retE rfl rfl rfl rfl rfl
    · exact (hc15 (by rw [hP, x8P]; exact nI_le (Nat.le_refl _) (by omega))).elim
  · refine Rn.steps 3 rfl ?_
    refine Rn.call rfl rfl rfl (c_horns (d + 2) n A w g) ?_
    refine Rn.br 2 rfl (fun hc15 => ?_) (fun hc15 => ?_)
    · exact (nI_ge hc (by omega) (by rw [hP, x8P] at hc15; exact hc15)).elim
    · refine Rn.steps 2 rfl ?_
      refine Rn.call rfl rfl rfl (c_carrierIn d n A w g (nI c)) ?_
      refine Rn.br 4 rfl (fun hc30 => ?_) (fun hc30 => ?_)
      · have hz : (decide (¬ mIn (A 0) (nI c) 10 = -6) && decide ((mAr (A 0) rk c).2 = rk)) = false := by rw [decide_eq_false (fun q => q hc30)]; rfl
        refine Rn.br 6 rfl (fun hc50 => ?_) (fun hc50 => ?_)
        · have hy : (if mIn (A 0) (nI c) 10 = -6 then (0 : Int32) else 1) = 0 := if_pos hc50
          refine Rn.steps 6 rfl ?_
          exact Rn.l5 (by decide) rfl rfl (by rw [mAr, hz]; rfl) (by rw [mAr, hy]; rfl) (by rw [← nI_1]; rfl) ih
        · have hy : (if mIn (A 0) (nI c) 10 = -6 then (0 : Int32) else 1) = 1 := if_neg hc50
          refine Rn.steps 5 rfl ?_
          exact Rn.l5 (by decide) rfl rfl (by rw [mAr, hz]; rfl) (by rw [mAr, hy]; rfl) (by rw [← nI_1]; rfl) ih
      · have hb : decide (¬ mIn (A 0) (nI c) 10 = -6) = true := decide_eq_true hc30
        refine Rn.br 3 rfl (fun hc35 => ?_) (fun hc35 => ?_)
        · have hz : (decide (¬ mIn (A 0) (nI c) 10 = -6) && decide ((mAr (A 0) rk c).2 = rk)) = true := by rw [hb, decide_eq_true hc35]; rfl
          refine Rn.br 7 rfl (fun hc50 => ?_) (fun hc50 => ?_)
          · have hy : (if mIn (A 0) (nI c) 10 = -6 then (0 : Int32) else 1) = 0 := if_pos hc50
            refine Rn.steps 6 rfl ?_
            exact Rn.l5 (by decide) rfl rfl (by rw [mAr, hz]; rfl) (by rw [mAr, hy]; rfl) (by rw [← nI_1]; rfl) ih
          · have hy : (if mIn (A 0) (nI c) 10 = -6 then (0 : Int32) else 1) = 1 := if_neg hc50
            refine Rn.steps 5 rfl ?_
            exact Rn.l5 (by decide) rfl rfl (by rw [mAr, hz]; rfl) (by rw [mAr, hy]; rfl) (by rw [← nI_1]; rfl) ih
        · have hz : (decide (¬ mIn (A 0) (nI c) 10 = -6) && decide ((mAr (A 0) rk c).2 = rk)) = false := by rw [hb, decide_eq_false hc35]; rfl
          refine Rn.br 6 rfl (fun hc50 => ?_) (fun hc50 => ?_)
          · have hy : (if mIn (A 0) (nI c) 10 = -6 then (0 : Int32) else 1) = 0 := if_pos hc50
            refine Rn.steps 6 rfl ?_
            exact Rn.l5 (by decide) rfl rfl (by rw [mAr, hz]; rfl) (by rw [mAr, hy]; rfl) (by rw [← nI_1]; rfl) ih
          · have hy : (if mIn (A 0) (nI c) 10 = -6 then (0 : Int32) else 1) = 1 := if_neg hc50
            refine Rn.steps 5 rfl ?_
            exact Rn.l5 (by decide) rfl rfl (by rw [mAr, hz]; rfl) (by rw [mAr, hy]; rfl) (by rw [← nI_1]; rfl) ih
theorem c_takePlaces : Rn (d + 2) 102 0 [(0, .ref 139)] [] (mOn A w g) n none (mOn (va_up A 5 (tpl (A 0) (A 5) 10)) (upd w 2 (nI (tpm (A 0) 10))) g) n := by
  have e0 : va_up A 5 (A 5) = A := by
    funext k
    unfold va_up
    by_cases hk : k = 5
    · rw [if_pos hk, hk]
    · rw [if_neg hk]
  refine Rn.steps 3 rfl ?_
  refine Rn.heap mOn_w2 ?_
  refine Rn.steps 2 rfl ?_
  refine Rn.l2 rfl rfl rfl (Rn.heap (h2 := mOn (va_up A 5 (tpl (A 0) (A 5) 0)) (upd w 2 (nI (tpm (A 0) 0))) g) (by show _ = mOn (va_up A 5 (A 5)) _ g; rw [e0]; rfl) (xloop (fun c => Rn (d + 2) 102 7 [(0, .ref 139), (1, .int (nI c))] [] (mOn (va_up A 5 (tpl (A 0) (A 5) c)) (upd w 2 (nI (tpm (A 0) c))) g) n none (mOn (va_up A 5 (tpl (A 0) (A 5) 10)) (upd w 2 (nI (tpm (A 0) 10))) g) n) 10 ?_ (fun c hc ih => ?_)))
  · refine Rn.steps 3 rfl ?_
    exact Rn.retE rfl rfl rfl rfl rfl
  · refine Rn.br 3 rfl (fun hc10 => ?_) (fun hc10 => ?_)
    · exact (nI_ge hc (by omega) hc10).elim
    · refine Rn.steps 2 rfl ?_
      refine Rn.call rfl rfl rfl (c_isC d n (va_up A 5 (tpl (A 0) (A 5) c)) _ g c hc) ?_
      refine Rn.br 1 rfl (fun hc18 => ?_) (fun hc18 => ?_)
      · have hz : zt (A 0) c = false := bi_eq0 hc18
        refine Rn.steps 2 rfl ?_
        exact Rn.l2 rfl rfl (by rw [← nI_1]; rfl) (Rn.heap (by rw [tpl, tpm, hz]; try rfl) ih)
      · have hz : zt (A 0) c = true := bi_ne0 hc18
        refine Rn.steps 7 rfl ?_
        refine Rn.call rfl rfl rfl (c_of1 (d + 1) n (va_up A 5 (tpl (A 0) (A 5) c)) _ g c 0 hc (by omega)) ?_
        refine Rn.iastN (m := tpm (A 0) c) rfl rfl rfl rfl (rfl) (by have := tpm_le (A 0) c; omega) (Nat.le_of_ble_eq_true rfl) ?_
        rw [mOn_5, bx_uu]
        refine Rn.steps 6 rfl ?_
        refine Rn.heap mOn_w2 ?_
        rw [upd_upd]
        rw [show upd w 2 (nI (tpm (A 0) c)) 2 + 1 = nI (tpm (A 0) c + 1) from (nI_1 _)]
        refine Rn.steps 2 rfl ?_
        exact Rn.l2 rfl rfl (by rw [← nI_1]; rfl) (Rn.heap (by rw [tpl, tpm, hz]; try rfl) ih)
theorem c_isTaken (p : Int32) (m : Nat) (hm : w 2 = nI m) (hm11 : m ≤ 11) : Rn d 103 0 [(0, .ref 139), (1, .int p)] [] (mOn A w g) n (some (.int (bi (mTk (A 5) p m)))) (mOn A w g) n := by
  refine Rn.steps 4 rfl ?_
  refine Rn.l4 (by decide) rfl rfl rfl rfl (xloop (fun c => Rn d 103 4 [(0, .ref 139), (1, .int p), (2, .int (bi (mTk (A 5) p c))), (3, .int (nI c))] [] (mOn A w g) n (some (.int (bi (mTk (A 5) p m)))) (mOn A w g) n) m ?_ (fun c hc ih => ?_))
  · refine Rn.br 4 rfl (fun hc9 => ?_) (fun hc9 => ?_)
    · refine Rn.steps 1 rfl ?_
      exact Rn.retZ rfl rfl rfl rfl rfl
    · exact (hc9 (by rw [hm]; exact nI_le (Nat.le_refl _) (by omega))).elim
  · refine Rn.br 4 rfl (fun hc9 => ?_) (fun hc9 => ?_)
    · exact (nI_ge hc (by omega) (by rw [← hm]; exact hc9)).elim
    · refine Rn.br 2 rfl (fun hc13 => ?_) (fun hc13 => ?_)
      · have hb := bi_eq0 hc13
        refine Rn.steps 3 rfl ?_
        refine Rn.ialdN (m := c) rfl rfl rfl (rfl) (by omega) (Nat.le_of_ble_eq_true rfl) ?_
        refine Rn.br 2 rfl (fun hc23 => ?_) (fun hc23 => ?_)
        · have hz : (mTk (A 5) p c || decide (A 5 c = p)) = true := by rw [hb, decide_eq_true hc23]; rfl
          refine Rn.steps 5 rfl ?_
          exact Rn.l4 (by decide) rfl rfl (by rw [mTk, hz]; rfl) (by rw [← nI_1]; rfl) ih
        · have hz : (mTk (A 5) p c || decide (A 5 c = p)) = false := by rw [hb, decide_eq_false hc23]; rfl
          refine Rn.steps 4 rfl ?_
          exact Rn.l4 (by decide) rfl rfl (by rw [mTk, hz]; rfl) (by rw [← nI_1]; rfl) ih
      · have hz : (mTk (A 5) p c || decide (A 5 c = p)) = true := by rw [bi_ne0 hc13]; rfl
        refine Rn.steps 5 rfl ?_
        exact Rn.l4 (by decide) rfl rfl (by rw [mTk, hz]; rfl) (by rw [← nI_1]; rfl) ih
theorem c_hr (ct : Int32) (fd : Int32) (hne : ¬ 2 * A 0 0 = 0) (m : Nat) (hm : w 2 = nI m) (hm11 : m ≤ 11) {v : Option Value} {h' : xHp} {n' : Nat} (kk : Rn (d + 2) 104 74 [(0, .ref 139), (1, .int fd), (2, .int ct), (3, .int (mHr (A 5) (2 * A 0 0) ct m))] [] (mOn A w g) n v h' n') : Rn (d + 2) 104 19 [(0, .ref 139), (1, .int fd), (2, .int ct), (3, .int 0), (4, .int 0)] [] (mOn A w g) n v h' n' := by
  refine xloop (fun c => Rn (d + 2) 104 19 [(0, .ref 139), (1, .int fd), (2, .int ct), (3, .int (mHr (A 5) (2 * A 0 0) ct c)), (4, .int (nI c))] [] (mOn A w g) n v h' n') m ?_ (fun c hc ih => ?_)
  · refine Rn.br 4 rfl (fun hc25 => ?_) (fun hc25 => ?_)
    · exact Rn.l4 (by decide) rfl rfl rfl rfl kk
    · exact (hc25 (by rw [hm]; exact nI_le (Nat.le_refl _) (by omega))).elim
  · refine Rn.br 4 rfl (fun hc25 => ?_) (fun hc25 => ?_)
    · exact (nI_ge hc (by omega) (by rw [← hm]; exact hc25)).elim
    · refine Rn.steps 3 rfl ?_
      refine Rn.ialdN (m := c) rfl rfl rfl (rfl) (by omega) (Nat.le_of_ble_eq_true rfl) ?_
      refine Rn.call rfl rfl rfl (c_turned (d + 1) n _ _) ?_
      refine Rn.br 7 rfl (fun hc46 => ?_) (fun hc46 => ?_)
      · have hz : (if t32 (A 5 c) = 4 * ct ∨ t32 (A 5 c) = o32 (2 * A 0 0) (4 * ct) then (1 : Int32) else 0) = 1 := if_pos (Or.inl hc46)
        refine Rn.steps 6 rfl ?_
        exact Rn.l5 (by decide) rfl rfl rfl (by rw [mHr, hz]; rfl) (by rw [← nI_1]; rfl) ih
      · refine Rn.steps 5 rfl ?_
        refine Rn.call rfl rfl rfl (c_otherSide d n A w g hne _) ?_
        refine Rn.br 1 rfl (fun hc58 => ?_) (fun hc58 => ?_)
        · have hz : (if t32 (A 5 c) = 4 * ct ∨ t32 (A 5 c) = o32 (2 * A 0 0) (4 * ct) then (1 : Int32) else 0) = 1 := if_pos (Or.inr hc58)
          refine Rn.steps 6 rfl ?_
          exact Rn.l5 (by decide) rfl rfl rfl (by rw [mHr, hz]; rfl) (by rw [← nI_1]; rfl) ih
        · have hz : (if t32 (A 5 c) = 4 * ct ∨ t32 (A 5 c) = o32 (2 * A 0 0) (4 * ct) then (1 : Int32) else 0) = 0 := if_neg (fun q => q.elim hc46 hc58)
          refine Rn.steps 5 rfl ?_
          exact Rn.l5 (by decide) rfl rfl rfl (by rw [mHr, hz]; rfl) (by rw [← nI_1]; rfl) ih
theorem xdown (k : Nat) : nI (k + 1) + (-1) = nI k := pk_m1 k
theorem c_meetAt (P : Nat) (hP : A 0 0 = nI P) (h2 : 2 ≤ P) (h6 : P ≤ 6) (m : Nat) (hm : w 2 = nI m) (hm11 : m ≤ 11) : Rn (d + 2) 104 0 [(0, .ref 139)] [] (mOn A w g) n (some (.int (mMt (A 5) m (2 * P) (2 * A 0 0) (2 * P)))) (mOn A w g) n := by
  refine Rn.steps 3 rfl ?_
  refine Rn.call rfl rfl rfl (c_horns (d + 1) n A w g) ?_
  refine Rn.steps 3 rfl ?_
  refine Rn.l3 rfl rfl rfl (by show some (Value.int (2 * A 0 0 - 1)) = _; rw [hP, x2P, show (1 : Int32) = nI 1 from rfl, pk_sub (by omega), if_neg (by omega)]) (xloop (fun c => Rn (d + 2) 104 10 [(0, .ref 139), (1, .int (mMt (A 5) m (2 * P) (2 * A 0 0) c)), (2, .int (if c = 2 * P then -1 else nI (2 * P - (c + 1))))] [] (mOn A w g) n (some (.int (mMt (A 5) m (2 * P) (2 * A 0 0) (2 * P)))) (mOn A w g) n) (2 * P) ?_ (fun c hc ih => ?_))
  · rw [if_pos rfl]
    refine Rn.steps 3 rfl ?_
    exact Rn.retE rfl rfl rfl rfl rfl
  · rw [if_neg (by omega)]
    refine Rn.br 2 rfl (fun hc11 => ?_) (fun hc11 => ?_)
    · exact (nI_pos (by omega) hc11).elim
    · refine Rn.steps 4 rfl ?_
      refine Rn.l5 (by decide) rfl rfl rfl rfl rfl (c_hr d n A w g _ _ (x2ne hP h2 h6) m hm hm11 ?_)
      refine Rn.br 3 rfl (fun hc76 => ?_) (fun hc76 => ?_)
      · have hz : (if mHr (A 5) (2 * A 0 0) (nI (2 * P - (c + 1))) m = 2 then nI (2 * P - (c + 1)) else mMt (A 5) m (2 * P) (2 * A 0 0) c) = nI (2 * P - (c + 1)) := if_pos hc76
        refine Rn.steps 5 rfl ?_
        refine Rn.l3 rfl rfl (by rw [mMt, hz]; rfl) ?_ ih
        show some (Value.int (nI (2 * P - (c + 1)) + (-1))) = some (Value.int (if c + 1 = 2 * P then -1 else nI (2 * P - (c + 1 + 1))))
        by_cases hl : c + 1 = 2 * P
        · rw [if_pos hl, show 2 * P - (c + 1) = 0 by omega]; rfl
        · rw [if_neg hl, show 2 * P - (c + 1) = (2 * P - (c + 1 + 1)) + 1 by omega, xdown]
      · have hz : (if mHr (A 5) (2 * A 0 0) (nI (2 * P - (c + 1))) m = 2 then nI (2 * P - (c + 1)) else mMt (A 5) m (2 * P) (2 * A 0 0) c) = mMt (A 5) m (2 * P) (2 * A 0 0) c := if_neg hc76
        refine Rn.steps 4 rfl ?_
        refine Rn.l3 rfl rfl (by rw [mMt, hz]; rfl) ?_ ih
        show some (Value.int (nI (2 * P - (c + 1)) + (-1))) = some (Value.int (if c + 1 = 2 * P then -1 else nI (2 * P - (c + 1 + 1))))
        by_cases hl : c + 1 = 2 * P
        · rw [if_pos hl, show 2 * P - (c + 1) = 0 by omega]; rfl
        · rw [if_neg hl, show 2 * P - (c + 1) = (2 * P - (c + 1 + 1)) + 1 by omega, xdown]
theorem c_stepPlaces (hne : ¬ 2 * A 0 0 = 0) (m : Nat) (hm : w 2 = nI m) (hm11 : m ≤ 11) : Rn (d + 2) 105 0 [(0, .ref 139)] [] (mOn A w g) n none (mOn (va_up A 5 (sPl (2 * A 0 0) (A 5) m)) w g) n := by
  have e0 : va_up A 5 (A 5) = A := by
    funext k
    unfold va_up
    by_cases hk : k = 5
    · rw [if_pos hk, hk]
    · rw [if_neg hk]
  refine Rn.steps 2 rfl ?_
  refine Rn.l2 rfl rfl rfl (Rn.heap (h2 := mOn (va_up A 5 (sPl (2 * A 0 0) (A 5) 0)) w g) (by rw [sPl_0, e0]) (xloop (fun c => Rn (d + 2) 105 2 [(0, .ref 139), (1, .int (nI c))] [] (mOn (va_up A 5 (sPl (2 * A 0 0) (A 5) c)) w g) n none (mOn (va_up A 5 (sPl (2 * A 0 0) (A 5) m)) w g) n) m ?_ (fun c hc ih => ?_)))
  · refine Rn.br 4 rfl (fun hc7 => ?_) (fun hc7 => ?_)
    · exact Rn.retE rfl rfl rfl rfl rfl
    · exact (hc7 (by rw [hm]; exact nI_le (Nat.le_refl _) (by omega))).elim
  · refine Rn.br 4 rfl (fun hc7 => ?_) (fun hc7 => ?_)
    · exact (nI_ge hc (by omega) (by rw [← hm]; exact hc7)).elim
    · refine Rn.steps 7 rfl ?_
      refine Rn.ialdN (m := c) rfl rfl rfl (rfl) (by omega) (Nat.le_of_ble_eq_true rfl) ?_
      refine Rn.call rfl rfl rfl (c_turned (d + 1) n _ _) ?_
      refine Rn.call rfl rfl rfl (c_otherSide d n (va_up A 5 (sPl (2 * A 0 0) (A 5) c)) w g hne _) ?_
      refine Rn.iastN (m := c) rfl rfl rfl rfl (rfl) (by omega) (Nat.le_of_ble_eq_true rfl) ?_
      rw [mOn_5, bx_uu]
      rw [show upd (va_up A 5 (sPl (2 * A 0 0) (A 5) c) 5) c (o32 (2 * va_up A 5 (sPl (2 * A 0 0) (A 5) c) 0 0) (t32 (va_up A 5 (sPl (2 * A 0 0) (A 5) c) 5 c))) = sPl (2 * A 0 0) (A 5) (c + 1) from (by show upd (sPl (2 * A 0 0) (A 5) c) c (o32 (2 * A 0 0) (t32 (sPl (2 * A 0 0) (A 5) c c))) = _; rw [sPl_k, sPl_s])]
      refine Rn.steps 2 rfl ?_
      exact Rn.l2 rfl rfl (by rw [← nI_1]; rfl) ih
theorem c_areBack (m : Nat) (hm : w 2 = nI m) (hm11 : m ≤ 11) : Rn (d + 2) 139 0 [(0, .ref 139)] [] (mOn A w g) n (some (.int (bi (mAb (A 0) (A 5) m 10)))) (mOn A w g) n := by
  refine Rn.steps 4 rfl ?_
  refine Rn.l3 rfl rfl rfl rfl (xloop (fun c => Rn (d + 2) 139 4 [(0, .ref 139), (1, .int (bi (mAb (A 0) (A 5) m c))), (2, .int (nI c))] [] (mOn A w g) n (some (.int (bi (mAb (A 0) (A 5) m 10)))) (mOn A w g) n) 10 ?_ (fun c hc ih => ?_))
  · refine Rn.steps 4 rfl ?_
    exact Rn.retZ rfl rfl rfl rfl rfl
  · refine Rn.br 3 rfl (fun hc7 => ?_) (fun hc7 => ?_)
    · exact (nI_ge hc (by omega) hc7).elim
    · refine Rn.br 2 rfl (fun hc11 => ?_) (fun hc11 => ?_)
      · have hz : (mAb (A 0) (A 5) m c && (!zt (A 0) c || mTk (A 5) (A 0 (10 + 7 * c)) m)) = false := by rw [bi_eq0 hc11]; rfl
        refine Rn.steps 4 rfl ?_
        exact Rn.l3 rfl rfl (by rw [mAb, hz]; rfl) (by rw [← nI_1]; rfl) ih
      · have hb := bi_ne0 hc11
        refine Rn.steps 2 rfl ?_
        refine Rn.call rfl rfl rfl (c_isC d n A w g c hc) ?_
        refine Rn.br 1 rfl (fun hc19 => ?_) (fun hc19 => ?_)
        · have hz : (mAb (A 0) (A 5) m c && (!zt (A 0) c || mTk (A 5) (A 0 (10 + 7 * c)) m)) = true := by rw [hb, bi_eq0 hc19]; rfl
          refine Rn.steps 5 rfl ?_
          exact Rn.l3 rfl rfl (by rw [mAb, hz]; rfl) (by rw [← nI_1]; rfl) ih
        · have hb2 := bi_ne0 hc19
          refine Rn.steps 4 rfl ?_
          refine Rn.call rfl rfl rfl (c_of1 (d + 1) n A w g c 0 hc (by omega)) ?_
          refine Rn.call rfl rfl rfl (c_isTaken (d + 1) n A w g _ m hm hm11) ?_
          refine Rn.br 1 rfl (fun hc32 => ?_) (fun hc32 => ?_)
          · have hz : (mAb (A 0) (A 5) m c && (!zt (A 0) c || mTk (A 5) (A 0 (10 + 7 * c)) m)) = false := by rw [hb, hb2, show mTk (A 5) (A 0 (10 + 7 * c)) m = false from bi_eq0 hc32]; rfl
            refine Rn.steps 4 rfl ?_
            exact Rn.l3 rfl rfl (by rw [mAb, hz]; rfl) (by rw [← nI_1]; rfl) ih
          · have hz : (mAb (A 0) (A 5) m c && (!zt (A 0) c || mTk (A 5) (A 0 (10 + 7 * c)) m)) = true := by rw [hb, hb2, show mTk (A 5) (A 0 (10 + 7 * c)) m = true from bi_ne0 hc32]; rfl
            refine Rn.steps 5 rfl ?_
            exact Rn.l3 rfl rfl (by rw [mAb, hz]; rfl) (by rw [← nI_1]; rfl) ih
theorem c_turnedTo (p : Int32) : Rn (d + 2) 134 0 [(0, .ref 139), (1, .int p)] [] (mOn A w g) n (some (.int (mCt (A 0) (A 5) p 10).1)) (mOn A w g) n := by
  refine Rn.steps 6 rfl ?_
  refine Rn.l5 (by decide) rfl rfl rfl rfl rfl (xloop (fun c => Rn (d + 2) 134 8 [(0, .ref 139), (1, .int p), (2, .int (mCt (A 0) (A 5) p c).1), (3, .int (nI (mCt (A 0) (A 5) p c).2)), (4, .int (nI c))] [] (mOn A w g) n (some (.int (mCt (A 0) (A 5) p 10).1)) (mOn A w g) n) 10 ?_ (fun c hc ih => ?_))
  · refine Rn.steps 4 rfl ?_
    exact Rn.retE rfl rfl rfl rfl rfl
  · refine Rn.br 3 rfl (fun hc12 => ?_) (fun hc12 => ?_)
    · exact (nI_ge hc (by omega) hc12).elim
    · refine Rn.steps 2 rfl ?_
      refine Rn.call rfl rfl rfl (c_isC d n A w g c hc) ?_
      refine Rn.br 1 rfl (fun hc21 => ?_) (fun hc21 => ?_)
      · have hz := bi_eq0 hc21
        refine Rn.steps 2 rfl ?_
        exact Rn.l5 (by decide) rfl rfl (by rw [mCt, hz]; first | rfl | (simp only [cond]; first | (rw [if_pos hc34]; rfl) | (rw [if_neg hc34]; rfl))) (by rw [mCt, hz]; first | rfl | (simp only [cond]; rw [← nI_1]; rfl)) (by rw [← nI_1]; rfl) ih
      · have hz := bi_ne0 hc21
        refine Rn.steps 3 rfl ?_
        refine Rn.ialdN (m := (mCt (A 0) (A 5) p c).2) rfl rfl rfl (rfl) (by rw [mCt_le]; have := tpm_le (A 0) c; omega) (Nat.le_of_ble_eq_true rfl) ?_
        refine Rn.call rfl rfl rfl (c_turned (d + 1) n _ _) ?_
        refine Rn.br 2 rfl (fun hc34 => ?_) (fun hc34 => ?_)
        · refine Rn.steps 6 rfl ?_
          exact Rn.l5 (by decide) rfl rfl (by rw [mCt, hz]; first | rfl | (simp only [cond]; first | (rw [if_pos hc34]; rfl) | (rw [if_neg hc34]; rfl))) (by rw [mCt, hz]; first | rfl | (simp only [cond]; rw [← nI_1]; rfl)) (by rw [← nI_1]; rfl) ih
        · refine Rn.steps 5 rfl ?_
          exact Rn.l5 (by decide) rfl rfl (by rw [mCt, hz]; first | rfl | (simp only [cond]; first | (rw [if_pos hc34]; rfl) | (rw [if_neg hc34]; rfl))) (by rw [mCt, hz]; first | rfl | (simp only [cond]; rw [← nI_1]; rfl)) (by rw [← nI_1]; rfl) ih
end MODEL2
end
section
/-! the reference's methods that change -/
def cpN (f t : Nat → Int32) (fa ta c : Nat) : Nat → Int32 := fun j => if ta ≤ j ∧ j < ta + c then f (fa + (j - ta)) else t j
theorem cpN_0 (f t : Nat → Int32) (fa ta : Nat) : cpN f t fa ta 0 = t := by
  funext j
  unfold cpN
  rw [if_neg (by omega)]
theorem cpN_s (f t : Nat → Int32) (fa ta c : Nat) : upd (cpN f t fa ta c) (ta + c) (f (fa + c)) = cpN f t fa ta (c + 1) := by
  funext j
  unfold upd cpN
  by_cases hj : j = ta + c
  · subst hj; rw [if_pos rfl, if_pos (by omega), show ta + c - ta = c by omega]
  · rw [if_neg hj]
    by_cases h2 : ta ≤ j ∧ j < ta + c
    · rw [if_pos h2, if_pos (by omega)]
    · rw [if_neg h2, if_neg (by omega)]
def shN (p : Nat → Int32) (c : Nat) : Nat → Int32 := fun j => if j < c then p (j + 80) else p j
theorem shN_s (p : Nat → Int32) (c : Nat) : upd (shN p c) c (shN p c (c + 80)) = shN p (c + 1) := by
  funext j
  unfold upd shN
  by_cases hj : j = c
  · subst hj; rw [if_pos rfl, if_neg (by omega), if_pos (Nat.lt_succ_self _)]
  · rw [if_neg hj]
    by_cases h2 : j < c
    · rw [if_pos h2, if_pos (by omega)]
    · rw [if_neg h2, if_neg (by omega)]
def recP (z p : Nat → Int32) (s : Nat) : Nat → Int32 := if s = 6 then cpN z (shN p 400) 0 400 80 else cpN z p 0 (80 * s) 80
theorem xup_self {α : Type} (A : Nat → α) (k : Nat) : va_up A k (A k) = A := by
  funext j
  unfold va_up
  by_cases hj : j = k
  · rw [if_pos hj, hj]
  · rw [if_neg hj]
def fillZ (z : Nat → Int32) (c : Nat) : Nat → Int32 := upd (upd z (10 + 7 * c + 1) (z 2)) 7 (upd z (10 + 7 * c + 1) (z 2) 7 + upd z (10 + 7 * c + 1) (z 2) 2)
def layN (z : Nat → Int32) (c k : Nat) : Nat → Int32 := fun j => if 10 + 7 * c ≤ j ∧ j < 10 + 7 * c + k then 0 else z j
theorem layN_0 (z : Nat → Int32) (c : Nat) : layN z c 0 = z := by
  funext j
  unfold layN
  rw [if_neg (by omega)]
theorem layN_s (z : Nat → Int32) (c k : Nat) : upd (layN z c k) (10 + 7 * c + k) 0 = layN z c (k + 1) := by
  funext j
  unfold upd layN
  by_cases hj : j = 10 + 7 * c + k
  · subst hj; rw [if_pos rfl, if_pos (by omega)]
  · rw [if_neg hj]
    by_cases h2 : 10 + 7 * c ≤ j ∧ j < 10 + 7 * c + k
    · rw [if_pos h2, if_pos (by omega)]
    · rw [if_neg h2, if_neg (by omega)]
def newZ (z : Nat → Int32) (c : Nat) (p : Int32) : Nat → Int32 := fillZ (upd (layN z c 7) (10 + 7 * c + 0) p) c
def toZ (z : Nat → Int32) (c : Nat) : Nat → Int32 := upd (upd z 6 (z 6 + z (10 + 7 * c + 1))) (10 + 7 * c + 0) (-6)
def tieZ (z : Nat → Int32) (c : Nat) : Nat → Int32 := upd (upd z (10 + 7 * c + 2) 0) 5 (upd z (10 + 7 * c + 2) 0 5 + 1)
def refZ (z : Nat → Int32) (c : Nat) : Nat → Int32 := fillZ (upd z 6 (z 6 + z (10 + 7 * c + 1))) c
theorem isC_of {z : Nat → Int32} {x : Int32} (h : isC z x = true) : ∃ c : Nat, c < 10 ∧ x = nI c ∧ zt z c = true := by
  have h3 := h
  unfold isC at h3
  obtain ⟨h4, h5⟩ := (Bool.and_eq_true _ _ ▸ h3 : _ ∧ _)
  obtain ⟨c, hc, rfl⟩ := xin10 (of_decide_eq_true h4)
  exact ⟨c, hc, rfl, by rw [← isC_nI hc]; exact h⟩
section MODEL3
variable (d n : Nat) (A : Nat → Nat → Int32) (w : Nat → Int32) (g h : xHp)
theorem c_copy01 (fa ta : Nat) (hf : fa + 80 ≤ 80) (ht : ta + 80 ≤ 480) : Rn d 95 0 [(0, .ref 140), (1, .int (nI fa)), (2, .ref 141), (3, .int (nI ta))] [] (mOn A w g) n none (mOn (va_up A 1 (cpN (A 0) (A 1) fa ta 80)) w g) n := by
  refine Rn.steps 2 rfl ?_
  refine Rn.l5 (by decide) rfl rfl rfl rfl rfl (Rn.heap (h2 := mOn (va_up A 1 (cpN (A 0) (A 1) fa ta 0)) w g) (by rw [cpN_0, xup_self]) (xloop (fun c => Rn d 95 3 [(0, .ref 140), (1, .int (nI fa)), (2, .ref 141), (3, .int (nI ta)), (4, .int (nI c))] [] (mOn (va_up A 1 (cpN (A 0) (A 1) fa ta c)) w g) n none (mOn (va_up A 1 (cpN (A 0) (A 1) fa ta 80)) w g) n) 80 ?_ (fun c hc ih => ?_)))
  · refine Rn.steps 3 rfl ?_
    exact Rn.retE rfl rfl rfl rfl rfl
  · refine Rn.br 3 rfl (fun hc7 => ?_) (fun hc7 => ?_)
    · exact (nI_ge hc (by omega) hc7).elim
    · refine Rn.steps 8 rfl ?_
      refine Rn.ialdN (m := fa + c) rfl rfl rfl (nI_add fa c) (by omega) (Nat.le_of_ble_eq_true rfl) ?_
      refine Rn.iastN (m := ta + c) rfl rfl rfl rfl (nI_add ta c) (by omega) (Nat.le_of_ble_eq_true rfl) ?_
      rw [mOn_1, bx_uu]
      rw [show upd (va_up A 1 (cpN (A 0) (A 1) fa ta c) 1) (ta + c) (va_up A 1 (cpN (A 0) (A 1) fa ta c) 0 (fa + c)) = cpN (A 0) (A 1) fa ta (c + 1) from cpN_s _ _ _ _ _]
      refine Rn.steps 2 rfl ?_
      exact Rn.l5 (by decide) rfl rfl rfl rfl (by rw [← nI_1]; rfl) ih
theorem c_copy10 (fa ta : Nat) (hf : fa + 80 ≤ 480) (ht : ta + 80 ≤ 80) : Rn d 95 0 [(0, .ref 141), (1, .int (nI fa)), (2, .ref 140), (3, .int (nI ta))] [] (mOn A w g) n none (mOn (va_up A 0 (cpN (A 1) (A 0) fa ta 80)) w g) n := by
  refine Rn.steps 2 rfl ?_
  refine Rn.l5 (by decide) rfl rfl rfl rfl rfl (Rn.heap (h2 := mOn (va_up A 0 (cpN (A 1) (A 0) fa ta 0)) w g) (by rw [cpN_0, xup_self]) (xloop (fun c => Rn d 95 3 [(0, .ref 141), (1, .int (nI fa)), (2, .ref 140), (3, .int (nI ta)), (4, .int (nI c))] [] (mOn (va_up A 0 (cpN (A 1) (A 0) fa ta c)) w g) n none (mOn (va_up A 0 (cpN (A 1) (A 0) fa ta 80)) w g) n) 80 ?_ (fun c hc ih => ?_)))
  · refine Rn.steps 3 rfl ?_
    exact Rn.retE rfl rfl rfl rfl rfl
  · refine Rn.br 3 rfl (fun hc7 => ?_) (fun hc7 => ?_)
    · exact (nI_ge hc (by omega) hc7).elim
    · refine Rn.steps 8 rfl ?_
      refine Rn.ialdN (m := fa + c) rfl rfl rfl (nI_add fa c) (by omega) (Nat.le_of_ble_eq_true rfl) ?_
      refine Rn.iastN (m := ta + c) rfl rfl rfl rfl (nI_add ta c) (by omega) (Nat.le_of_ble_eq_true rfl) ?_
      rw [mOn_0, bx_uu]
      rw [show upd (va_up A 0 (cpN (A 1) (A 0) fa ta c) 0) (ta + c) (va_up A 0 (cpN (A 1) (A 0) fa ta c) 1 (fa + c)) = cpN (A 1) (A 0) fa ta (c + 1) from cpN_s _ _ _ _ _]
      refine Rn.steps 2 rfl ?_
      exact Rn.l5 (by decide) rfl rfl rfl rfl (by rw [← nI_1]; rfl) ih
theorem c_copy02 (fa ta : Nat) (hf : fa + 80 ≤ 80) (ht : ta + 80 ≤ 160) : Rn d 95 0 [(0, .ref 140), (1, .int (nI fa)), (2, .ref 142), (3, .int (nI ta))] [] (mOn A w g) n none (mOn (va_up A 2 (cpN (A 0) (A 2) fa ta 80)) w g) n := by
  refine Rn.steps 2 rfl ?_
  refine Rn.l5 (by decide) rfl rfl rfl rfl rfl (Rn.heap (h2 := mOn (va_up A 2 (cpN (A 0) (A 2) fa ta 0)) w g) (by rw [cpN_0, xup_self]) (xloop (fun c => Rn d 95 3 [(0, .ref 140), (1, .int (nI fa)), (2, .ref 142), (3, .int (nI ta)), (4, .int (nI c))] [] (mOn (va_up A 2 (cpN (A 0) (A 2) fa ta c)) w g) n none (mOn (va_up A 2 (cpN (A 0) (A 2) fa ta 80)) w g) n) 80 ?_ (fun c hc ih => ?_)))
  · refine Rn.steps 3 rfl ?_
    exact Rn.retE rfl rfl rfl rfl rfl
  · refine Rn.br 3 rfl (fun hc7 => ?_) (fun hc7 => ?_)
    · exact (nI_ge hc (by omega) hc7).elim
    · refine Rn.steps 8 rfl ?_
      refine Rn.ialdN (m := fa + c) rfl rfl rfl (nI_add fa c) (by omega) (Nat.le_of_ble_eq_true rfl) ?_
      refine Rn.iastN (m := ta + c) rfl rfl rfl rfl (nI_add ta c) (by omega) (Nat.le_of_ble_eq_true rfl) ?_
      rw [mOn_2, bx_uu]
      rw [show upd (va_up A 2 (cpN (A 0) (A 2) fa ta c) 2) (ta + c) (va_up A 2 (cpN (A 0) (A 2) fa ta c) 0 (fa + c)) = cpN (A 0) (A 2) fa ta (c + 1) from cpN_s _ _ _ _ _]
      refine Rn.steps 2 rfl ?_
      exact Rn.l5 (by decide) rfl rfl rfl rfl (by rw [← nI_1]; rfl) ih
theorem c_copy20 (fa ta : Nat) (hf : fa + 80 ≤ 160) (ht : ta + 80 ≤ 80) : Rn d 95 0 [(0, .ref 142), (1, .int (nI fa)), (2, .ref 140), (3, .int (nI ta))] [] (mOn A w g) n none (mOn (va_up A 0 (cpN (A 2) (A 0) fa ta 80)) w g) n := by
  refine Rn.steps 2 rfl ?_
  refine Rn.l5 (by decide) rfl rfl rfl rfl rfl (Rn.heap (h2 := mOn (va_up A 0 (cpN (A 2) (A 0) fa ta 0)) w g) (by rw [cpN_0, xup_self]) (xloop (fun c => Rn d 95 3 [(0, .ref 142), (1, .int (nI fa)), (2, .ref 140), (3, .int (nI ta)), (4, .int (nI c))] [] (mOn (va_up A 0 (cpN (A 2) (A 0) fa ta c)) w g) n none (mOn (va_up A 0 (cpN (A 2) (A 0) fa ta 80)) w g) n) 80 ?_ (fun c hc ih => ?_)))
  · refine Rn.steps 3 rfl ?_
    exact Rn.retE rfl rfl rfl rfl rfl
  · refine Rn.br 3 rfl (fun hc7 => ?_) (fun hc7 => ?_)
    · exact (nI_ge hc (by omega) hc7).elim
    · refine Rn.steps 8 rfl ?_
      refine Rn.ialdN (m := fa + c) rfl rfl rfl (nI_add fa c) (by omega) (Nat.le_of_ble_eq_true rfl) ?_
      refine Rn.iastN (m := ta + c) rfl rfl rfl rfl (nI_add ta c) (by omega) (Nat.le_of_ble_eq_true rfl) ?_
      rw [mOn_0, bx_uu]
      rw [show upd (va_up A 0 (cpN (A 2) (A 0) fa ta c) 0) (ta + c) (va_up A 0 (cpN (A 2) (A 0) fa ta c) 2 (fa + c)) = cpN (A 2) (A 0) fa ta (c + 1) from cpN_s _ _ _ _ _]
      refine Rn.steps 2 rfl ?_
      exact Rn.l5 (by decide) rfl rfl rfl rfl (by rw [← nI_1]; rfl) ih
theorem x80 (s : Nat) : (80 : Int32) * nI s = nI (80 * s) := by rw [show (80 : Int32) = nI 80 from rfl, pk_mul]
theorem c_record (s : Nat) (hs : w 0 = nI s) (h6 : s ≤ 6) : Rn (d + 1) 96 0 [(0, .ref 139)] [] (mOn A w g) n none (mOn (va_up A 1 (recP (A 0) (A 1) s)) (upd w 0 (nI (if s = 6 then 6 else s + 1))) g) n := by
  refine Rn.br 4 rfl (fun hc6 => ?_) (fun hc6 => ?_)
  · have hs6 : s = 6 := by
      rw [hs] at hc6
      exact (nI_eq (by omega) (by omega)).mp hc6
    subst hs6
    refine Rn.steps 2 rfl ?_
    refine Rn.l2 rfl rfl rfl (Rn.heap (h2 := mOn (va_up A 1 (shN (A 1) 0)) w g) (by rw [show shN (A 1) 0 = A 1 from rfl, xup_self]) (xloop (fun c => Rn (d + 1) 96 11 [(0, .ref 139), (1, .int (nI c))] [] (mOn (va_up A 1 (shN (A 1) c)) w g) n none (mOn (va_up A 1 (recP (A 0) (A 1) 6)) (upd w 0 (nI (if 6 = 6 then 6 else 6 + 1))) g) n) 400 ?_ (fun c hc ih => ?_)))
    · refine Rn.steps 8 rfl ?_
      refine Rn.stk (st2 := [.int (nI 5), .ref 139]) (by show [Value.int (w 0 - 1), Value.ref 139] = _; rw [hs]; rfl) ?_
      refine Rn.steps 1 rfl ?_
      refine Rn.heap (mOn_w0 (x := nI 5)) ?_
      refine Rn.steps 9 rfl ?_
      refine Rn.call rfl rfl rfl (c_copy01 d n (va_up A 1 (shN (A 1) 400)) (upd w 0 (nI 5)) g 0 400 (by omega) (by omega)) ?_
      rw [bx_uu]
      refine Rn.steps 6 rfl ?_
      refine Rn.heap (mOn_w0 (x := nI 6)) ?_
      rw [upd_upd]
      exact Rn.retE rfl rfl rfl rfl rfl
    · refine Rn.br 3 rfl (fun hc15 => ?_) (fun hc15 => ?_)
      · exact (nI_ge hc (by omega) hc15).elim
      · refine Rn.steps 8 rfl ?_
        refine Rn.ialdN (m := c + 80) rfl rfl rfl ((by rw [show (80 : Int32) = nI 80 from rfl, nI_add])) (by omega) (Nat.le_of_ble_eq_true rfl) ?_
        refine Rn.iastN (m := c) rfl rfl rfl rfl (rfl) (by omega) (Nat.le_of_ble_eq_true rfl) ?_
        rw [mOn_1, bx_uu]
        rw [show upd (va_up A 1 (shN (A 1) c) 1) c (va_up A 1 (shN (A 1) c) 1 (c + 80)) = shN (A 1) (c + 1) from shN_s _ _]
        refine Rn.steps 2 rfl ?_
        exact Rn.l2 rfl rfl (by rw [← nI_1]; rfl) ih
  · have hs6 : ¬ s = 6 := fun q => hc6 (by rw [hs, q]; rfl)
    refine Rn.steps 9 rfl ?_
    refine Rn.stk (st2 := [.int (nI (80 * s)), .ref 141, .int (nI 0), .ref 140]) (by show [Value.int (80 * w 0), Value.ref 141, Value.int 0, Value.ref 140] = _; rw [hs, x80]; rfl) ?_
    refine Rn.call rfl rfl rfl (c_copy01 d n A w g 0 (80 * s) (by omega) (by omega)) ?_
    refine Rn.steps 5 rfl ?_
    refine Rn.stk (st2 := [.int (nI (s + 1)), .ref 139]) (by show [Value.int (w 0 + 1), Value.ref 139] = _; rw [hs, nI_1]) ?_
    refine Rn.steps 1 rfl ?_
    refine Rn.heap (mOn_w0 (x := nI (s + 1))) ?_
    exact Rn.retE rfl rfl rfl rfl (by unfold recP; rw [if_neg hs6, if_neg hs6])
theorem c_undo (s : Nat) (hs : w 0 = nI s) (h6 : s ≤ 6) : Rn (d + 1) 97 0 [(0, .ref 139)] [] (mOn A w g) n (some (.int (if s = 0 then -5 else nI (s - 1)))) (if s = 0 then mOn A w g else mOn (va_up A 0 (cpN (A 1) (A 0) (80 * (s - 1)) 0 80)) (upd w 0 (nI (s - 1))) g) n := by
  refine Rn.br 3 rfl (fun hc4 => ?_) (fun hc4 => ?_)
  · have h0 : s = 0 := by
      rw [hs] at hc4
      exact (nI_eq (b := 0) (by omega) (by omega)).mp hc4
    refine Rn.steps 1 rfl ?_
    exact Rn.retE rfl rfl rfl (by first | (rw [if_pos h0]; done) | (rw [if_neg h0]; rfl)) (by first | (rw [if_pos h0]; done) | (rw [if_neg h0]; done))
  · have h0 : ¬ s = 0 := fun q => hc4 (by rw [hs, q]; rfl)
    have e1 : w 0 - 1 = nI (s - 1) := by rw [hs, show (1 : Int32) = nI 1 from rfl, pk_sub (by omega)]
    refine Rn.steps 5 rfl ?_
    refine Rn.stk (st2 := [.int (nI (s - 1)), .ref 139]) (by show [Value.int (w 0 - 1), Value.ref 139] = _; rw [e1]) ?_
    refine Rn.steps 1 rfl ?_
    refine Rn.heap (mOn_w0 (x := nI (s - 1))) ?_
    refine Rn.steps 9 rfl ?_
    refine Rn.stk (st2 := [.int (nI 0), .ref 140, .int (nI (80 * (s - 1))), .ref 141]) (by show [Value.int 0, Value.ref 140, Value.int (80 * nI (s - 1)), Value.ref 141] = _; rw [x80]; rfl) ?_
    refine Rn.call rfl rfl rfl (c_copy10 d n A (upd w 0 (nI (s - 1))) g (80 * (s - 1)) 0 (by omega) (by omega)) ?_
    refine Rn.steps 2 rfl ?_
    exact Rn.retE rfl rfl rfl (by first | (rw [if_pos h0]; done) | (rw [if_neg h0]; rfl)) (by first | (rw [if_pos h0]; done) | (rw [if_neg h0]; done))
theorem xin2 {x : Int32} (h : 0 ≤ x ∧ x ≤ 1) : ∃ c : Nat, c < 2 ∧ x = nI c := by
  obtain ⟨j, hj, e⟩ := nI_of2 (M := 1) (n := 1) rfl (Int32.not_lt.mpr h.1) h.2
  exact ⟨j, by omega, e⟩
theorem c_save_bad (x : Int32) (hx : decide (0 ≤ x ∧ x ≤ 1) = false) : Rn (d + 1) 98 0 [(0, .ref 139), (1, .int x)] [] (mOn A w g) n (some (.int (-2))) (mOn A w g) n := by
  refine Rn.steps 3 rfl ?_
  refine Rn.call rfl rfl rfl (c_in d n _ _ _ _) ?_
  refine Rn.br 1 rfl (fun hc6 => ?_) (fun hc6 => ?_)
  · refine Rn.steps 1 rfl ?_
    exact Rn.retE rfl rfl rfl rfl rfl
  · exact absurd (bi_ne0 hc6) (by rw [hx]; decide)
theorem c_save (s : Nat) (hs : s < 2) : Rn (d + 3) 98 0 [(0, .ref 139), (1, .int (nI s))] [] (mOn A w g) n (some (.int (mMany (A 0) 10))) (mOn (va_up (va_up A 2 (cpN (A 0) (A 2) 0 (80 * s) 80)) 3 (upd (A 3) s 1)) w g) n := by
  refine Rn.steps 3 rfl ?_
  refine Rn.call rfl rfl rfl (c_in (d + 2) n _ _ _ _) ?_
  refine Rn.br 1 rfl (fun hc6 => ?_) (fun hc6 => ?_)
  · exact absurd (bi_eq0 hc6) (by rw [decide_eq_true (⟨nI_pos' (by omega), nI_le (b := 1) (by omega) (by omega)⟩ : 0 ≤ nI s ∧ nI s ≤ 1)]; decide)
  · refine Rn.steps 8 rfl ?_
    refine Rn.stk (st2 := [.int (nI (80 * s)), .ref 142, .int (nI 0), .ref 140]) (by show [Value.int (80 * nI s), Value.ref 142, Value.int 0, Value.ref 140] = _; rw [x80]; rfl) ?_
    refine Rn.call rfl rfl rfl (c_copy02 (d + 2) n A w g 0 (80 * s) (by omega) (by omega)) ?_
    refine Rn.steps 4 rfl ?_
    refine Rn.bastN (m := s) rfl rfl rfl rfl (rfl) (by omega) (Nat.le_of_ble_eq_true rfl) ?_
    rw [mOn_3]
    refine Rn.steps 1 rfl ?_
    refine Rn.call rfl rfl rfl (c_many d n _ _ g) ?_
    exact Rn.retE rfl rfl rfl rfl rfl
theorem c_fill (c : Nat) (hc : c < 10) : Rn (d + 1) 111 0 [(0, .ref 139), (1, .int (nI c))] [] (mOn A w g) n (none) (mOn (va_up A 0 (fillZ (A 0) c)) w g) n := by
  refine Rn.steps 6 rfl ?_
  refine Rn.ialdN (m := 2) rfl rfl rfl (rfl) (by omega) (Nat.le_of_ble_eq_true rfl) ?_
  refine Rn.call rfl rfl rfl (c_lay d n A w g c 1 (A 0 2) hc (by omega)) ?_
  refine Rn.steps 4 rfl ?_
  refine Rn.ialdN (m := 7) rfl rfl rfl (rfl) (by omega) (Nat.le_of_ble_eq_true rfl) ?_
  refine Rn.steps 3 rfl ?_
  refine Rn.ialdN (m := 2) rfl rfl rfl (rfl) (by omega) (Nat.le_of_ble_eq_true rfl) ?_
  refine Rn.steps 1 rfl ?_
  refine Rn.iastN (m := 7) rfl rfl rfl rfl (rfl) (by omega) (Nat.le_of_ble_eq_true rfl) ?_
  rw [mOn_0, bx_uu]
  exact Rn.retE rfl rfl rfl rfl rfl
theorem c_carrierNow (c : Nat) (hc : c < 10) (hf : zt (A 0) c = false) (hb : ∀ j, j < c → zt (A 0) j = true) (x q : Int32) : Rn (d + 2) 112 0 [(0, .ref 139), (1, .int x), (2, .int q)] [] (mOn A w g) n (some (.int (nI c))) (mOn (va_up A 0 (newZ (A 0) c (4 * x + q))) w g) n := by
  refine Rn.steps 2 rfl ?_
  refine Rn.l4 (by decide) rfl rfl rfl rfl (xloop (fun j => Rn (d + 2) 112 2 [(0, .ref 139), (1, .int x), (2, .int q), (3, .int (nI j))] [] (mOn A w g) n (some (.int (nI c))) (mOn (va_up A 0 (newZ (A 0) c (4 * x + q))) w g) n) c ?_ (fun j hj ih => ?_))
  · refine Rn.steps 2 rfl ?_
    refine Rn.call rfl rfl rfl (c_isC (d) n A w g c hc) ?_
    refine Rn.br 1 rfl (fun hc7 => ?_) (fun hc7 => ?_)
    · refine Rn.steps 2 rfl ?_
      refine Rn.l5 (by decide) rfl rfl rfl rfl rfl (Rn.heap (h2 := mOn (va_up A 0 (layN (A 0) c 0)) w g) (by rw [layN_0, xup_self]) (xloop (fun k => Rn (d + 2) 112 19 [(0, .ref 139), (1, .int x), (2, .int q), (3, .int (nI c)), (4, .int (nI k))] [] (mOn (va_up A 0 (layN (A 0) c k)) w g) n (some (.int (nI c))) (mOn (va_up A 0 (newZ (A 0) c (4 * x + q))) w g) n) 7 ?_ (fun k hk ih => ?_)))
      · refine Rn.steps 11 rfl ?_
        refine Rn.call rfl rfl rfl (c_lay (d + 1) n _ w g c 0 _ hc (by omega)) ?_
        rw [bx_uu]
        refine Rn.steps 2 rfl ?_
        refine Rn.call rfl rfl rfl (c_fill d n _ w g c hc) ?_
        rw [bx_uu]
        refine Rn.steps 1 rfl ?_
        exact Rn.retE rfl rfl rfl rfl rfl
      · refine Rn.br 3 rfl (fun hc23 => ?_) (fun hc23 => ?_)
        · exact (nI_ge hk (by omega) hc23).elim
        · refine Rn.steps 4 rfl ?_
          refine Rn.call rfl rfl rfl (c_lay (d + 1) n _ w g c k 0 hc (by omega)) ?_
          rw [bx_uu]
          rw [show upd (va_up A 0 (layN (A 0) c k) 0) (10 + 7 * c + k) 0 = layN (A 0) c (k + 1) from layN_s _ _ _]
          refine Rn.steps 2 rfl ?_
          exact Rn.l5 (by decide) rfl rfl rfl rfl (by rw [← nI_1]; rfl) ih
    · exact absurd (bi_ne0 hc7) (by rw [hf]; decide)
  · refine Rn.steps 2 rfl ?_
    refine Rn.call rfl rfl rfl (c_isC d n A w g j (by omega)) ?_
    refine Rn.br 1 rfl (fun hc7 => ?_) (fun hc7 => ?_)
    · exact absurd (bi_eq0 hc7) (by rw [hb j hj]; decide)
    · refine Rn.steps 2 rfl ?_
      exact Rn.l4 (by decide) rfl rfl rfl (by rw [← nI_1]; rfl) ih
theorem c_takeOutNow (c : Nat) (hc : c < 10) : Rn (d + 1) 114 0 [(0, .ref 139), (1, .int (nI c))] [] (mOn A w g) n (none) (mOn (va_up A 0 (toZ (A 0) c)) w g) n := by
  refine Rn.steps 4 rfl ?_
  refine Rn.ialdN (m := 6) rfl rfl rfl (rfl) (by omega) (Nat.le_of_ble_eq_true rfl) ?_
  refine Rn.steps 3 rfl ?_
  refine Rn.call rfl rfl rfl (c_of1 d n A w g c 1 hc (by omega)) ?_
  refine Rn.steps 1 rfl ?_
  refine Rn.iastN (m := 6) rfl rfl rfl rfl (rfl) (by omega) (Nat.le_of_ble_eq_true rfl) ?_
  rw [mOn_0]
  refine Rn.steps 4 rfl ?_
  refine Rn.call rfl rfl rfl (c_lay d n _ w g c 0 (-6) hc (by omega)) ?_
  rw [bx_uu]
  exact Rn.retE rfl rfl rfl rfl rfl
theorem c_tieNow (c : Nat) (hc : c < 10) : Rn (d + 1) 124 0 [(0, .ref 139), (1, .int (nI c))] [] (mOn A w g) n (none) (mOn (va_up A 0 (tieZ (A 0) c)) w g) n := by
  refine Rn.steps 4 rfl ?_
  refine Rn.call rfl rfl rfl (c_lay d n A w g c 2 0 hc (by omega)) ?_
  refine Rn.steps 4 rfl ?_
  refine Rn.ialdN (m := 5) rfl rfl rfl (rfl) (by omega) (Nat.le_of_ble_eq_true rfl) ?_
  refine Rn.steps 2 rfl ?_
  refine Rn.iastN (m := 5) rfl rfl rfl rfl (rfl) (by omega) (Nat.le_of_ble_eq_true rfl) ?_
  rw [mOn_0, bx_uu]
  exact Rn.retE rfl rfl rfl rfl rfl
theorem c_refillNow (c : Nat) (hc : c < 10) : Rn (d + 2) 126 0 [(0, .ref 139), (1, .int (nI c))] [] (mOn A w g) n (none) (mOn (va_up A 0 (refZ (A 0) c)) w g) n := by
  refine Rn.steps 4 rfl ?_
  refine Rn.ialdN (m := 6) rfl rfl rfl (rfl) (by omega) (Nat.le_of_ble_eq_true rfl) ?_
  refine Rn.steps 3 rfl ?_
  refine Rn.call rfl rfl rfl (c_of1 (d + 1) n A w g c 1 hc (by omega)) ?_
  refine Rn.steps 1 rfl ?_
  refine Rn.iastN (m := 6) rfl rfl rfl rfl (rfl) (by omega) (Nat.le_of_ble_eq_true rfl) ?_
  rw [mOn_0]
  refine Rn.steps 2 rfl ?_
  refine Rn.call rfl rfl rfl (c_fill d n _ w g c hc) ?_
  rw [bx_uu]
  exact Rn.retE rfl rfl rfl rfl rfl
/-- the rows and numbers behind a record -/
def rA (A : Nat → Nat → Int32) (s : Nat) : Nat → Nat → Int32 := va_up A 1 (recP (A 0) (A 1) s)
def rW (w : Nat → Int32) (s : Nat) : Nat → Int32 := upd w 0 (nI (if s = 6 then 6 else s + 1))
theorem c_takeOut_bad (x : Int32) (hx : isC (A 0) x = false) : Rn (d + 2) 115 0 [(0, .ref 139), (1, .int x)] [] (mOn A w g) n (some (.int (-1))) (mOn A w g) n := by
  refine Rn.steps 2 rfl ?_
  refine Rn.call rfl rfl rfl (c_isCx d n A w g x) ?_
  refine Rn.br 1 rfl (fun hc5 => ?_) (fun hc5 => ?_)
  · refine Rn.steps 1 rfl ?_
    exact Rn.retE rfl rfl rfl rfl rfl
  · exact absurd (bi_ne0 hc5) (by rw [hx]; decide)
theorem c_takeOut (s : Nat) (hs : w 0 = nI s) (h6 : s ≤ 6) (c : Nat) (hc : c < 10) (hz : zt (A 0) c = true) : Rn (d + 2) 115 0 [(0, .ref 139), (1, .int (nI c))] [] (mOn A w g) n (some (.int (toZ (A 0) c (10 + 7 * c + 1)))) (mOn (va_up (rA A s) 0 (toZ (A 0) c)) (rW w s) g) n := by
  refine Rn.steps 2 rfl ?_
  refine Rn.call rfl rfl rfl (c_isC d n A w g c hc) ?_
  refine Rn.br 1 rfl (fun hc5 => ?_) (fun hc5 => ?_)
  · exact absurd (bi_eq0 hc5) (by rw [hz]; decide)
  · refine Rn.steps 1 rfl ?_
    refine Rn.call rfl rfl rfl (c_record d n A w g s hs h6) ?_
    refine Rn.steps 2 rfl ?_
    refine Rn.call rfl rfl rfl (c_takeOutNow d n (rA A s) (rW w s) g c hc) ?_
    refine Rn.steps 3 rfl ?_
    refine Rn.call rfl rfl rfl (c_of1 (d + 1) n _ (rW w s) g c 1 hc (by omega)) ?_
    exact Rn.retE rfl rfl rfl rfl rfl
theorem c_refill_bad (x : Int32) (hx : isC (A 0) x = false) : Rn (d + 2) 127 0 [(0, .ref 139), (1, .int x)] [] (mOn A w g) n (some (.int (-1))) (mOn A w g) n := by
  refine Rn.steps 2 rfl ?_
  refine Rn.call rfl rfl rfl (c_isCx d n A w g x) ?_
  refine Rn.br 1 rfl (fun hc5 => ?_) (fun hc5 => ?_)
  · refine Rn.steps 1 rfl ?_
    exact Rn.retE rfl rfl rfl rfl rfl
  · exact absurd (bi_ne0 hc5) (by rw [hx]; decide)
theorem c_refill (s : Nat) (hs : w 0 = nI s) (h6 : s ≤ 6) (c : Nat) (hc : c < 10) (hz : zt (A 0) c = true) : Rn (d + 3) 127 0 [(0, .ref 139), (1, .int (nI c))] [] (mOn A w g) n (some (.int (A 0 (10 + 7 * c + 1)))) (mOn (va_up (rA A s) 0 (refZ (A 0) c)) (rW w s) g) n := by
  refine Rn.steps 2 rfl ?_
  refine Rn.call rfl rfl rfl (c_isC (d + 1) n A w g c hc) ?_
  refine Rn.br 1 rfl (fun hc5 => ?_) (fun hc5 => ?_)
  · exact absurd (bi_eq0 hc5) (by rw [hz]; decide)
  · refine Rn.steps 1 rfl ?_
    refine Rn.call rfl rfl rfl (c_record (d + 1) n A w g s hs h6) ?_
    refine Rn.steps 3 rfl ?_
    refine Rn.call rfl rfl rfl (c_of1 (d + 2) n (rA A s) (rW w s) g c 1 hc (by omega)) ?_
    refine Rn.steps 3 rfl ?_
    refine Rn.call rfl rfl rfl (c_refillNow d n (rA A s) (rW w s) g c hc) ?_
    refine Rn.steps 1 rfl ?_
    exact Rn.retE rfl rfl rfl rfl rfl
theorem c_snap_bad (x : Int32) (hx : wne (A 0) x 0 < 0) : Rn (d + 3) 123 0 [(0, .ref 139), (1, .int x)] [] (mOn A w g) n (some (.int (wne (A 0) x 0))) (mOn A w g) n := by
  refine Rn.steps 3 rfl ?_
  refine Rn.call rfl rfl rfl (c_whyNotEnd d n A w g x 0) ?_
  refine Rn.br 3 rfl (fun hc8 => ?_) (fun hc8 => ?_)
  · exact absurd hx (Int32.not_lt.mpr hc8)
  · refine Rn.steps 1 rfl ?_
    exact Rn.retE rfl rfl rfl rfl rfl
theorem c_tie_bad (x : Int32) (hx : wne (A 0) x 1 < 0) : Rn (d + 3) 125 0 [(0, .ref 139), (1, .int x)] [] (mOn A w g) n (some (.int (wne (A 0) x 1))) (mOn A w g) n := by
  refine Rn.steps 3 rfl ?_
  refine Rn.call rfl rfl rfl (c_whyNotEnd d n A w g x 1) ?_
  refine Rn.br 3 rfl (fun hc8 => ?_) (fun hc8 => ?_)
  · exact absurd hx (Int32.not_lt.mpr hc8)
  · refine Rn.steps 1 rfl ?_
    exact Rn.retE rfl rfl rfl rfl rfl
theorem c_snap (s : Nat) (hs : w 0 = nI s) (h6 : s ≤ 6) (c : Nat) (hc : c < 10) (hx : ¬ wne (A 0) (nI c) 0 < 0) : Rn (d + 3) 123 0 [(0, .ref 139), (1, .int (nI c))] [] (mOn A w g) n (some (.int (mSum (upd (A 0) (10 + 7 * c + 2) 1) 2 10))) (mOn (va_up (rA A s) 0 (upd (A 0) (10 + 7 * c + 2) 1)) (rW w s) g) n := by
  refine Rn.steps 3 rfl ?_
  refine Rn.call rfl rfl rfl (c_whyNotEnd (d) n A w g (nI c) 0) ?_
  refine Rn.br 3 rfl (fun hc8 => ?_) (fun hc8 => ?_)
  · refine Rn.steps 1 rfl ?_
    refine Rn.call rfl rfl rfl (c_record (d + 1) n A w g s hs h6) ?_
    refine Rn.steps 4 rfl ?_
    refine Rn.call rfl rfl rfl (c_lay (d + 2) n (rA A s) (rW w s) g c 2 1 hc (by omega)) ?_
    refine Rn.steps 2 rfl ?_
    refine Rn.call rfl rfl rfl (c_sum d n _ (rW w s) g 2 (by omega)) ?_
    exact Rn.retE rfl rfl rfl rfl rfl
  · exact absurd (Int32.not_le.mp hc8) hx
theorem c_tie (s : Nat) (hs : w 0 = nI s) (h6 : s ≤ 6) (c : Nat) (hc : c < 10) (hx : ¬ wne (A 0) (nI c) 1 < 0) : Rn (d + 3) 125 0 [(0, .ref 139), (1, .int (nI c))] [] (mOn A w g) n (some (.int (tieZ (A 0) c 5))) (mOn (va_up (rA A s) 0 (tieZ (A 0) c)) (rW w s) g) n := by
  refine Rn.steps 3 rfl ?_
  refine Rn.call rfl rfl rfl (c_whyNotEnd d n A w g (nI c) 1) ?_
  refine Rn.br 3 rfl (fun hc8 => ?_) (fun hc8 => ?_)
  · refine Rn.steps 1 rfl ?_
    refine Rn.call rfl rfl rfl (c_record (d + 1) n A w g s hs h6) ?_
    refine Rn.steps 2 rfl ?_
    refine Rn.call rfl rfl rfl (c_tieNow (d + 1) n (rA A s) (rW w s) g c hc) ?_
    refine Rn.steps 3 rfl ?_
    refine Rn.ialdN (m := 5) rfl rfl rfl (rfl) (by omega) (Nat.le_of_ble_eq_true rfl) ?_
    exact Rn.retE rfl rfl rfl rfl rfl
  · exact absurd (Int32.not_le.mp hc8) hx
theorem c_carrier_bad (hne : ¬ 2 * A 0 0 = 0) (x q : Int32) (hx : whyNC (A 0) x q < 0) : Rn (d + 5) 113 0 [(0, .ref 139), (1, .int x), (2, .int q)] [] (mOn A w g) n (some (.int (whyNC (A 0) x q))) (mOn A w g) n := by
  refine Rn.steps 3 rfl ?_
  refine Rn.call rfl rfl rfl (c_whyNotCarrier d n A w g hne x q) ?_
  refine Rn.br 3 rfl (fun hc8 => ?_) (fun hc8 => ?_)
  · exact absurd hx (Int32.not_lt.mpr hc8)
  · refine Rn.steps 1 rfl ?_
    exact Rn.retE rfl rfl rfl rfl rfl
theorem c_carrier (s : Nat) (hs : w 0 = nI s) (h6 : s ≤ 6) (hne : ¬ 2 * A 0 0 = 0) (x q : Int32) (hx : ¬ whyNC (A 0) x q < 0) (c : Nat) (hc : c < 10) (hf : zt (A 0) c = false) (hb : ∀ j, j < c → zt (A 0) j = true) : Rn (d + 5) 113 0 [(0, .ref 139), (1, .int x), (2, .int q)] [] (mOn A w g) n (some (.int (nI c))) (mOn (va_up (rA A s) 0 (newZ (A 0) c (4 * x + q))) (rW w s) g) n := by
  refine Rn.steps 3 rfl ?_
  refine Rn.call rfl rfl rfl (c_whyNotCarrier d n A w g hne x q) ?_
  refine Rn.br 3 rfl (fun hc8 => ?_) (fun hc8 => ?_)
  · refine Rn.steps 1 rfl ?_
    refine Rn.call rfl rfl rfl (c_record (d + 3) n A w g s hs h6) ?_
    refine Rn.steps 3 rfl ?_
    refine Rn.call rfl rfl rfl (c_carrierNow (d + 2) n (rA A s) (rW w s) g c hc hf hb x q) ?_
    exact Rn.retE rfl rfl rfl rfl rfl
  · exact absurd (Int32.not_le.mp hc8) hx
theorem c_set_bad (k x : Int32) (hx : isV k x = false) : Rn (d + 2) 107 0 [(0, .ref 139), (1, .int k), (2, .int x)] [] (mOn A w g) n (some (.int (-2))) (mOn A w g) n := by
  refine Rn.steps 2 rfl ?_
  refine Rn.call rfl rfl rfl (c_isValue d n _ k x) ?_
  refine Rn.br 1 rfl (fun hc5 => ?_) (fun hc5 => ?_)
  · refine Rn.steps 1 rfl ?_
    exact Rn.retE rfl rfl rfl rfl rfl
  · exact absurd (bi_ne0 hc5) (by rw [hx]; decide)
theorem c_set_not (x : Int32) (hx : isV 0 x = true) (hm : 0 < mMany (A 0) 10) : Rn (d + 3) 107 0 [(0, .ref 139), (1, .int 0), (2, .int x)] [] (mOn A w g) n (some (.int (-5))) (mOn A w g) n := by
  refine Rn.steps 2 rfl ?_
  refine Rn.call rfl rfl rfl (c_isValue (d + 1) n _ 0 x) ?_
  refine Rn.br 1 rfl (fun hc5 => ?_) (fun hc5 => ?_)
  · exact absurd (bi_eq0 hc5) (by rw [hx]; decide)
  · refine Rn.steps 3 rfl ?_
    refine Rn.call rfl rfl rfl (c_many d n A w g) ?_
    refine Rn.br 1 rfl (fun hc19 => ?_) (fun hc19 => ?_)
    · exact absurd hm (Int32.not_lt.mpr hc19)
    · refine Rn.steps 1 rfl ?_
      exact Rn.retE rfl rfl rfl rfl rfl
theorem c_set (s : Nat) (hs : w 0 = nI s) (h6 : s ≤ 6) (k : Nat) (hk : k < 3) (x : Int32) (hx : isV (nI k) x = true) (hm : k = 0 → ¬ 0 < mMany (A 0) 10) : Rn (d + 3) 107 0 [(0, .ref 139), (1, .int (nI k)), (2, .int x)] [] (mOn A w g) n (some (.int (A 0 k))) (mOn (va_up (rA A s) 0 (upd (A 0) k x)) (rW w s) g) n := by
  refine Rn.steps 2 rfl ?_
  refine Rn.call rfl rfl rfl (c_isValue (d + 1) n _ (nI k) x) ?_
  refine Rn.br 1 rfl (fun hc5 => ?_) (fun hc5 => ?_)
  · exact absurd (bi_eq0 hc5) (by rw [hx]; decide)
  · refine Rn.br 2 rfl (fun hc12 => ?_) (fun hc12 => ?_)
    · refine Rn.steps 1 rfl ?_
      refine Rn.call rfl rfl rfl (c_many d n A w g) ?_
      refine Rn.br 1 rfl (fun hc19 => ?_) (fun hc19 => ?_)
      · refine Rn.steps 1 rfl ?_
        refine Rn.call rfl rfl rfl (c_record (d + 1) n A w g s hs h6) ?_
        refine Rn.steps 3 rfl ?_
        refine Rn.ialdN (m := k) rfl rfl rfl (rfl) (by omega) (Nat.le_of_ble_eq_true rfl) ?_
        refine Rn.steps 5 rfl ?_
        refine Rn.iastN (m := k) rfl rfl rfl rfl (rfl) (by omega) (Nat.le_of_ble_eq_true rfl) ?_
        rw [mOn_0]
        refine Rn.steps 1 rfl ?_
        exact Rn.retE rfl rfl rfl rfl rfl
      · exact absurd (Int32.not_le.mp hc19) (hm ((nI_eq (a := k) (b := 0) (by omega) (by omega)).mp hc12))
    · refine Rn.steps 1 rfl ?_
      refine Rn.call rfl rfl rfl (c_record (d + 1) n A w g s hs h6) ?_
      refine Rn.steps 3 rfl ?_
      refine Rn.ialdN (m := k) rfl rfl rfl (rfl) (by omega) (Nat.le_of_ble_eq_true rfl) ?_
      refine Rn.steps 5 rfl ?_
      refine Rn.iastN (m := k) rfl rfl rfl rfl (rfl) (by omega) (Nat.le_of_ble_eq_true rfl) ?_
      rw [mOn_0]
      refine Rn.steps 1 rfl ?_
      exact Rn.retE rfl rfl rfl rfl rfl
theorem c_restore_bad (x : Int32) (hx : decide (0 ≤ x ∧ x ≤ 1) = false) : Rn (d + 1) 99 0 [(0, .ref 139), (1, .int x)] [] (mOn A w g) n (some (.int (-2))) (mOn A w g) n := by
  refine Rn.steps 3 rfl ?_
  refine Rn.call rfl rfl rfl (c_in d n _ _ _ _) ?_
  refine Rn.br 1 rfl (fun hc6 => ?_) (fun hc6 => ?_)
  · refine Rn.steps 1 rfl ?_
    exact Rn.retE rfl rfl rfl rfl rfl
  · exact absurd (bi_ne0 hc6) (by rw [hx]; decide)
theorem c_restore_not (t : Nat) (ht : t < 2) (hv : A 3 t = 0) : Rn (d + 1) 99 0 [(0, .ref 139), (1, .int (nI t))] [] (mOn A w g) n (some (.int (-5))) (mOn A w g) n := by
  refine Rn.steps 3 rfl ?_
  refine Rn.call rfl rfl rfl (c_in d n _ _ _ _) ?_
  refine Rn.br 1 rfl (fun hc6 => ?_) (fun hc6 => ?_)
  · exact absurd (bi_eq0 hc6) (by rw [decide_eq_true (⟨nI_pos' (by omega), nI_le (b := 1) (by omega) (by omega)⟩ : 0 ≤ nI t ∧ nI t ≤ 1)]; decide)
  · refine Rn.steps 3 rfl ?_
    refine Rn.baldN (m := t) rfl rfl rfl (rfl) (by omega) (Nat.le_of_ble_eq_true rfl) ?_
    refine Rn.br 1 rfl (fun hc18 => ?_) (fun hc18 => ?_)
    · refine Rn.steps 1 rfl ?_
      exact Rn.retE rfl rfl rfl rfl rfl
    · exact absurd hv hc18
theorem c_restore (s : Nat) (hs : w 0 = nI s) (h6 : s ≤ 6) (t : Nat) (ht : t < 2) (hv : ¬ A 3 t = 0) : Rn (d + 3) 99 0 [(0, .ref 139), (1, .int (nI t))] [] (mOn A w g) n (some (.int (mMany (cpN (A 2) (A 0) (80 * t) 0 80) 10))) (mOn (va_up (rA A s) 0 (cpN (A 2) (A 0) (80 * t) 0 80)) (rW w s) g) n := by
  refine Rn.steps 3 rfl ?_
  refine Rn.call rfl rfl rfl (c_in (d + 2) n _ _ _ _) ?_
  refine Rn.br 1 rfl (fun hc6 => ?_) (fun hc6 => ?_)
  · exact absurd (bi_eq0 hc6) (by rw [decide_eq_true (⟨nI_pos' (by omega), nI_le (b := 1) (by omega) (by omega)⟩ : 0 ≤ nI t ∧ nI t ≤ 1)]; decide)
  · refine Rn.steps 3 rfl ?_
    refine Rn.baldN (m := t) rfl rfl rfl (rfl) (by omega) (Nat.le_of_ble_eq_true rfl) ?_
    refine Rn.br 1 rfl (fun hc18 => ?_) (fun hc18 => ?_)
    · exact absurd hc18 hv
    · refine Rn.steps 1 rfl ?_
      refine Rn.call rfl rfl rfl (c_record (d + 1) n A w g s hs h6) ?_
      refine Rn.steps 8 rfl ?_
      refine Rn.stk (st2 := [.int (nI 0), .ref 140, .int (nI (80 * t)), .ref 142]) (by show [Value.int 0, Value.ref 140, Value.int (80 * nI t), Value.ref 142] = _; rw [x80]; rfl) ?_
      refine Rn.call rfl rfl rfl (c_copy20 (d + 2) n (rA A s) (rW w s) g (80 * t) 0 (by omega) (by omega)) ?_
      refine Rn.steps 1 rfl ?_
      refine Rn.call rfl rfl rfl (c_many d n _ _ g) ?_
      exact Rn.retE rfl rfl rfl rfl rfl
end MODEL3
end
section
/-! the reference: what if, steps, runs -/
def mZ (A : Nat → Nat → Int32) (z a : Nat → Int32) : Nat → Nat → Int32 := va_up (va_up A 0 z) 5 a
theorem mZ_up5 {A : Nat → Nat → Int32} {z a b : Nat → Int32} : va_up (mZ A z a) 5 b = mZ A z b := bx_uu _ _ _ _
theorem mZ_up0 {A : Nat → Nat → Int32} {z a z' : Nat → Int32} : va_up (mZ A z a) 0 z' = mZ A z' a := by
  funext j
  unfold mZ va_up
  by_cases h0 : j = 0
  · subst h0; rfl
  · by_cases h5 : j = 5
    · subst h5; rfl
    · rw [if_neg h0, if_neg h5, if_neg h5, if_neg h0, if_neg h0]
theorem mZ_self (A : Nat → Nat → Int32) : mZ A (A 0) (A 5) = A := by
  unfold mZ
  rw [xup_self, xup_self]
def Ag (m : Nat) (a q : Nat → Int32) : Prop := ∀ k, k < m → a k = q k
theorem Ag.rf (m : Nat) (a : Nat → Int32) : Ag m a a := fun _ _ => rfl
theorem Ag.hr {m : Nat} {a q : Nat → Int32} (h : Ag m a q) (hn ct : Int32) : ∀ k, k ≤ m → mHr a hn ct k = mHr q hn ct k := by
  intro k
  induction k with
  | zero => intro _; rfl
  | succ k ih => intro hk; unfold mHr; rw [ih (by omega), h k (by omega)]
theorem Ag.mt {m : Nat} {a q : Nat → Int32} (h : Ag m a q) (H : Nat) (hn : Int32) : ∀ j, mMt a m H hn j = mMt q m H hn j := by
  intro j
  induction j with
  | zero => rfl
  | succ j ih => unfold mMt; rw [ih, h.hr hn _ m (Nat.le_refl _)]
theorem Ag.st {m : Nat} {a q : Nat → Int32} (h : Ag m a q) (hn : Int32) : Ag m (sPl hn a m) (sPl hn q m) := by
  intro k hk
  unfold sPl
  rw [if_pos hk, if_pos hk, h k hk]
theorem Ag.tk {m : Nat} {a q : Nat → Int32} (h : Ag m a q) (p : Int32) : ∀ k, k ≤ m → mTk a p k = mTk q p k := by
  intro k
  induction k with
  | zero => intro _; rfl
  | succ k ih => intro hk; unfold mTk; rw [ih (by omega), h k (by omega)]
theorem Ag.ab {m : Nat} {a q : Nat → Int32} (h : Ag m a q) (z : Nat → Int32) : ∀ c, mAb z a m c = mAb z q m c := by
  intro c
  induction c with
  | zero => rfl
  | succ c ih => unfold mAb; rw [ih, h.tk _ m (Nat.le_refl _)]
theorem tpm_mono (z : Nat → Int32) (c e : Nat) (h : c ≤ e) : tpm z c ≤ tpm z e := by
  induction e with
  | zero => rw [Nat.le_zero.mp h]; exact Nat.le_refl _
  | succ e ih =>
    by_cases hc : c ≤ e
    · refine Nat.le_trans (ih hc) ?_
      rw [show tpm z (e + 1) = cond (zt z e) (tpm z e + 1) (tpm z e) from rfl]
      cases zt z e <;> simp only [cond] <;> omega
    · rw [show c = e + 1 by omega]; exact Nat.le_refl _
theorem Ag.ct {m : Nat} {a q : Nat → Int32} (h : Ag m a q) (z : Nat → Int32) (p : Int32) : ∀ c, tpm z c ≤ m → mCt z a p c = mCt z q p c := by
  intro c
  induction c with
  | zero => intro _; rfl
  | succ c ih =>
    intro hc
    have h1 := tpm_mono z c (c + 1) (Nat.le_succ _)
    unfold mCt
    rw [ih (by omega)]
    cases hz : zt z c with
    | false => rfl
    | true =>
      have h2 : tpm z (c + 1) = tpm z c + 1 := by rw [show tpm z (c + 1) = cond (zt z c) (tpm z c + 1) (tpm z c) from rfl, hz]; rfl
      rw [h (mCt z q p c).2 (by rw [mCt_le]; omega)]
theorem Ag.tp (z a b : Nat → Int32) : ∀ c, Ag (tpm z c) (tpl z a c) (tpl z b c) := by
  intro c
  induction c with
  | zero => intro k hk; exact absurd hk (Nat.not_lt_zero _)
  | succ c ih =>
    intro k hk
    unfold tpl
    unfold tpm at hk
    cases hz : zt z c with
    | false => rw [hz] at hk; exact ih k hk
    | true =>
      rw [hz] at hk
      simp only [cond] at hk ⊢
      unfold upd
      by_cases hk2 : k = tpm z c
      · rw [if_pos hk2, if_pos hk2]
      · rw [if_neg hk2, if_neg hk2]; exact ih k (by omega)
def plz (z : Nat → Int32) : Nat → Int32 := tpl z (fun _ => 0) 10
/-- where two meet now: the contact, or -6 -/
def mtz (z q : Nat → Int32) (m P : Nat) : Int32 := mMt q m (2 * P) (2 * z 0) (2 * P)
def pls (hn : Int32) (m : Nat) (q : Nat → Int32) : Nat → Nat → Int32 | 0 => q | i + 1 => sPl hn (pls hn m q i) m
/-- how many steps are done up to a meeting: fuel, steps already done -/
def mi (z : Nat → Int32) (m P : Nat) (q : Nat → Int32) : Nat → Nat → Nat | 0, c => c | r + 1, c => if mtz z (pls (2 * z 0) m q c) m P = -6 then mi z m P q r (c + 1) else c
def miR (z : Nat → Int32) (m P : Nat) (q : Nat → Int32) : Int32 := if mi z m P q 100 0 < 100 then nI (mi z m P q 100 0 + 1) else -6
theorem mi_ge (z : Nat → Int32) (m P : Nat) (q : Nat → Int32) : ∀ r c, c ≤ mi z m P q r c := by
  intro r
  induction r with
  | zero => intro c; exact Nat.le_refl _
  | succ r ih =>
    intro c
    unfold mi
    split
    · exact Nat.le_trans (Nat.le_succ _) (ih (c + 1))
    · exact Nat.le_refl _
theorem mi_le (z : Nat → Int32) (m P : Nat) (q : Nat → Int32) : ∀ r c, mi z m P q r c ≤ c + r := by
  intro r
  induction r with
  | zero => intro c; exact Nat.le_refl _
  | succ r ih =>
    intro c
    unfold mi
    split
    · have := ih (c + 1); omega
    · omega
def whyF (z : Nat → Int32) (P : Nat) : Int32 := if tpm z 10 = 0 then 1 else if 0 < mSum z 2 10 then 2 else cond (mEmp z 10) 3 (if mtz z (plz z) (tpm z 10) P = -6 then 0 else 4)
def sx1 (z : Nat → Int32) (c : Nat) (x : Int32) : Nat → Int32 := upd z (10 + 7 * c + 3) (z (10 + 7 * c + 3) + x)
def sx2 (z : Nat → Int32) (c : Nat) (x : Int32) : Nat → Int32 := upd z (10 + 7 * c + 4) (z (10 + 7 * c + 4) + x)
def sx3 (z : Nat → Int32) (c : Nat) (p : Int32) : Nat → Int32 := upd z (10 + 7 * c + 0) (o32 (2 * z 0) p)
def sx4 (z : Nat → Int32) (c : Nat) : Nat → Int32 := upd z (10 + 7 * c + 1) (z (10 + 7 * c + 1) - 1)
def sx5 (z : Nat → Int32) (c : Nat) : Nat → Int32 := upd z (10 + 7 * c + 5) (z (10 + 7 * c + 5) + 1)
def sx6 (z : Nat → Int32) : Nat → Int32 := upd z 8 (z 8 + 1)
def stX (z : Nat → Int32) (c : Nat) (p x y : Int32) : Nat → Int32 := sx6 (sx5 (sx4 (sx3 (sx2 (sx1 z c x) c y) c p) c) c)
def stC (z : Nat → Int32) (c : Nat) : Nat → Int32 := stX z c (t32 (z (10 + 7 * c))) (if rm (t32 (z (10 + 7 * c))) 4 = 1 then 1 else 0) (if rm (t32 (z (10 + 7 * c))) 4 = 3 then 1 else 0)
def stZ (z : Nat → Int32) : Nat → Nat → Int32 | 0 => z | c + 1 => cond (zt (stZ z c) c) (stC (stZ z c) c) (stZ z c)
theorem stZ_f {z : Nat → Int32} {c : Nat} (hz : zt (stZ z c) c = false) : stZ z (c + 1) = stZ z c := by rw [stZ, hz]; rfl
theorem stZ_t {z : Nat → Int32} {c : Nat} {p x y : Int32} (hz : zt (stZ z c) c = true) (hp : p = t32 (stZ z c (10 + 7 * c))) (hx : (if rm p 4 = 1 then (1 : Int32) else 0) = x) (hy : (if rm p 4 = 3 then (1 : Int32) else 0) = y) : stZ z (c + 1) = sx6 (sx5 (sx4 (sx3 (sx2 (sx1 (stZ z c) c x) c y) c p) c) c) := by
  rw [stZ, hz]
  show stC (stZ z c) c = _
  unfold stC stX
  rw [← hp, hx, hy]
def stF (z : Nat → Int32) : Nat → Int32 := upd (upd (stZ z 10) 4 (stZ z 10 4 + stZ z 10 1)) 3 (stZ z 10 3 + 1)
theorem upd_ne {f : Nat → Int32} {k j : Nat} {x : Int32} (h : ¬ j = k) : upd f k x j = f j := if_neg h
theorem upd_eq {f : Nat → Int32} {k : Nat} {x : Int32} : upd f k x k = x := if_pos rfl
theorem stZ_lo (z : Nat → Int32) (c j : Nat) (hj : j < 8) : stZ z c j = z j := by
  induction c with
  | zero => rfl
  | succ c ih =>
    unfold stZ
    cases zt (stZ z c) c with
    | false => exact ih
    | true =>
      show stX _ _ _ _ _ j = z j
      unfold stX sx6 sx5 sx4 sx3 sx2 sx1
      rw [upd_ne (by omega), upd_ne (by omega), upd_ne (by omega), upd_ne (by omega), upd_ne (by omega), upd_ne (by omega)]
      exact ih
section MODEL4
variable (d n : Nat) (A : Nat → Nat → Int32) (w : Nat → Int32) (g h : xHp)
theorem k_meetAt (z a q : Nat → Int32) (m P : Nat) (hP : z 0 = nI P) (h2 : 2 ≤ P) (h6 : P ≤ 6) (hm : m ≤ 11) (hq : Ag m a q) : Rn (d + 2) 104 0 [(0, .ref 139)] [] (mOn (mZ A z a) (upd w 2 (nI m)) g) n (some (.int (mtz z q m P))) (mOn (mZ A z a) (upd w 2 (nI m)) g) n := by
  have k1 := c_meetAt d n (mZ A z a) (upd w 2 (nI m)) g P hP h2 h6 m upd_eq hm
  rw [show mMt (mZ A z a 5) m (2 * P) (2 * mZ A z a 0 0) (2 * P) = mtz z q m P from hq.mt _ _ _] at k1
  exact k1
theorem k_step (z a : Nat → Int32) (m P : Nat) (hP : z 0 = nI P) (h2 : 2 ≤ P) (h6 : P ≤ 6) (hm : m ≤ 11) : Rn (d + 2) 105 0 [(0, .ref 139)] [] (mOn (mZ A z a) (upd w 2 (nI m)) g) n none (mOn (mZ A z (sPl (2 * z 0) a m)) (upd w 2 (nI m)) g) n := by
  have k1 := c_stepPlaces d n (mZ A z a) (upd w 2 (nI m)) g (x2ne hP h2 h6) m upd_eq hm
  rw [mZ_up5] at k1
  exact k1
theorem k_take (z a : Nat → Int32) (x : Int32) : Rn (d + 2) 102 0 [(0, .ref 139)] [] (mOn (mZ A z a) (upd w 2 x) g) n none (mOn (mZ A z (tpl z a 10)) (upd w 2 (nI (tpm z 10))) g) n := by
  have k1 := c_takePlaces d n (mZ A z a) (upd w 2 x) g
  rw [mZ_up5, upd_upd] at k1
  exact k1
theorem k_meetsIn (z q : Nat → Int32) (m P : Nat) (hP : z 0 = nI P) (h2 : 2 ≤ P) (h6 : P ≤ 6) (hm : m ≤ 11) (a : Nat → Int32) (hq : Ag m a q) : ∃ a', Ag m a' (pls (2 * z 0) m q (mi z m P q 100 0)) ∧ Rn (d + 3) 133 0 [(0, .ref 139)] [] (mOn (mZ A z a) (upd w 2 (nI m)) g) n (some (.int (miR z m P q))) (mOn (mZ A z a') (upd w 2 (nI m)) g) n := by
  have key : ∀ a, Ag m a (pls (2 * z 0) m q 0) → ∃ a', Ag m a' (pls (2 * z 0) m q (mi z m P q (100 - 0) 0)) ∧ Rn (d + 3) 133 2 [(0, .ref 139), (1, .int (nI (0 + 1)))] [] (mOn (mZ A z a) (upd w 2 (nI m)) g) n (some (.int (if mi z m P q (100 - 0) 0 < 100 then nI (mi z m P q (100 - 0) 0 + 1) else -6))) (mOn (mZ A z a') (upd w 2 (nI m)) g) n := by
    refine xloop (fun c => ∀ a, Ag m a (pls (2 * z 0) m q c) → ∃ a', Ag m a' (pls (2 * z 0) m q (mi z m P q (100 - c) c)) ∧ Rn (d + 3) 133 2 [(0, .ref 139), (1, .int (nI (c + 1)))] [] (mOn (mZ A z a) (upd w 2 (nI m)) g) n (some (.int (if mi z m P q (100 - c) c < 100 then nI (mi z m P q (100 - c) c + 1) else -6))) (mOn (mZ A z a') (upd w 2 (nI m)) g) n) 100 ?_ (fun c hc ih => ?_)
    · intro a ha
      refine ⟨a, ha, ?_⟩
      rw [if_neg (by show ¬ mi z m P q 0 100 < 100; unfold mi; omega)]
      refine Rn.steps 7 rfl ?_
      exact Rn.retE rfl rfl rfl rfl rfl
    · intro a ha
      have hs : 100 - c = (100 - (c + 1)) + 1 := by omega
      by_cases hz : mtz z (pls (2 * z 0) m q c) m P = -6
      · have hmi : mi z m P q (100 - c) c = mi z m P q (100 - (c + 1)) (c + 1) := by rw [hs, mi, if_pos hz]
        rw [hmi]
        obtain ⟨a', g1, g2⟩ := ih (sPl (2 * z 0) a m) (ha.st _)
        refine ⟨a', g1, ?_⟩
        refine Rn.br 3 rfl (fun hc5 => ?_) (fun hc5 => ?_)
        · exact (nI_nlt (a := 100) (b := c + 1) (by omega) (by omega) hc5).elim
        · refine Rn.steps 1 rfl ?_
          refine Rn.call rfl rfl rfl (k_meetAt (d) n A w g z a _ m P hP h2 h6 hm ha) ?_
          refine Rn.br 2 rfl (fun hc14 => ?_) (fun hc14 => ?_)
          · refine Rn.steps 1 rfl ?_
            refine Rn.call rfl rfl rfl (k_step d n A w g z a m P hP h2 h6 hm) ?_
            refine Rn.steps 2 rfl ?_
            exact Rn.l2 rfl rfl (by rw [← nI_1 (c + 1)]; rfl) g2
          · exact (hc14 hz).elim
      · have hmi : mi z m P q (100 - c) c = c := by rw [hs, mi, if_neg hz]
        rw [hmi, if_pos hc]
        refine ⟨a, ha, ?_⟩
        refine Rn.br 3 rfl (fun hc5 => ?_) (fun hc5 => ?_)
        · exact (nI_nlt (a := 100) (b := c + 1) (by omega) (by omega) hc5).elim
        · refine Rn.steps 1 rfl ?_
          refine Rn.call rfl rfl rfl (k_meetAt (d) n A w g z a _ m P hP h2 h6 hm ha) ?_
          refine Rn.br 2 rfl (fun hc14 => ?_) (fun hc14 => ?_)
          · exact (hz hc14).elim
          · refine Rn.br 3 rfl (fun hc30 => ?_) (fun hc30 => ?_)
            · exact (nI_nlt (a := 100) (b := c + 1) (by omega) (by omega) hc30).elim
            · refine Rn.steps 2 rfl ?_
              exact Rn.retE rfl rfl rfl rfl rfl
  obtain ⟨a', g1, g2⟩ := key a hq
  exact ⟨a', g1, Rn.steps 2 rfl (Rn.l2 rfl rfl rfl g2)⟩
theorem k_why (z a : Nat → Int32) (x : Int32) (P : Nat) (hP : z 0 = nI P) (h2 : 2 ≤ P) (h6 : P ≤ 6) : Rn (d + 3) 117 0 [(0, .ref 139)] [] (mOn (mZ A z a) (upd w 2 x) g) n (some (.int (whyF z P))) (mOn (mZ A z (tpl z a 10)) (upd w 2 (nI (tpm z 10))) g) n := by
  have hm := tpm_le z 10
  refine Rn.steps 1 rfl ?_
  refine Rn.call rfl rfl rfl (k_take (d) n A w g z a x) ?_
  refine Rn.br 3 rfl (fun hc8 => ?_) (fun hc8 => ?_)
  · have e1 : tpm z 10 = 0 := (nI_eq (a := tpm z 10) (b := 0) (by omega) (by omega)).mp hc8
    refine Rn.steps 2 rfl ?_
    exact Rn.retE rfl rfl rfl (by unfold whyF; first | (rw [if_pos e1]; done) | (rw [if_neg e1]; first | (rw [if_pos e2]; done) | (rw [if_neg e2, e3]; first | rfl | (simp only [cond]; first | (rw [if_pos hc44]; done) | (rw [if_neg hc44]; done))))) rfl
  · have e1 : ¬ tpm z 10 = 0 := fun q => hc8 (by show nI (tpm z 10) = 0; rw [q]; rfl)
    refine Rn.steps 2 rfl ?_
    refine Rn.call rfl rfl rfl (c_sum d n (mZ A z (tpl z a 10)) _ g 2 (by omega)) ?_
    refine Rn.br 1 rfl (fun hc20 => ?_) (fun hc20 => ?_)
    · have e2 : ¬ 0 < mSum z 2 10 := Int32.not_lt.mpr hc20
      refine Rn.steps 1 rfl ?_
      refine Rn.call rfl rfl rfl (c_isEmpty d n (mZ A z (tpl z a 10)) _ g) ?_
      refine Rn.br 1 rfl (fun hc31 => ?_) (fun hc31 => ?_)
      · have e3 : mEmp z 10 = false := bi_eq0 hc31
        refine Rn.steps 1 rfl ?_
        refine Rn.call rfl rfl rfl (k_meetAt d n A w g z (tpl z a 10) (plz z) (tpm z 10) P hP h2 h6 (by omega) (Ag.tp z a _ 10)) ?_
        refine Rn.br 2 rfl (fun hc44 => ?_) (fun hc44 => ?_)
        · refine Rn.steps 1 rfl ?_
          exact Rn.retE rfl rfl rfl (by unfold whyF; first | (rw [if_pos e1]; done) | (rw [if_neg e1]; first | (rw [if_pos e2]; done) | (rw [if_neg e2, e3]; first | rfl | (simp only [cond]; first | (rw [if_pos hc44]; done) | (rw [if_neg hc44]; done))))) rfl
        · refine Rn.steps 2 rfl ?_
          exact Rn.retE rfl rfl rfl (by unfold whyF; first | (rw [if_pos e1]; done) | (rw [if_neg e1]; first | (rw [if_pos e2]; done) | (rw [if_neg e2, e3]; first | rfl | (simp only [cond]; first | (rw [if_pos hc44]; done) | (rw [if_neg hc44]; done))))) rfl
      · have e3 : mEmp z 10 = true := bi_ne0 hc31
        refine Rn.steps 2 rfl ?_
        exact Rn.retE rfl rfl rfl (by unfold whyF; first | (rw [if_pos e1]; done) | (rw [if_neg e1]; first | (rw [if_pos e2]; done) | (rw [if_neg e2, e3]; first | rfl | (simp only [cond]; first | (rw [if_pos hc44]; done) | (rw [if_neg hc44]; done))))) rfl
    · have e2 : 0 < mSum z 2 10 := Int32.not_le.mp hc20
      refine Rn.steps 2 rfl ?_
      exact Rn.retE rfl rfl rfl (by unfold whyF; first | (rw [if_pos e1]; done) | (rw [if_neg e1]; first | (rw [if_pos e2]; done) | (rw [if_neg e2, e3]; first | rfl | (simp only [cond]; first | (rw [if_pos hc44]; done) | (rw [if_neg hc44]; done))))) rfl
theorem c_step (hne : ¬ 2 * A 0 0 = 0) : Rn (d + 2) 118 0 [(0, .ref 139)] [] (mOn A w g) n none (mOn (va_up A 0 (stF (A 0))) w g) n := by
  refine Rn.steps 2 rfl ?_
  refine Rn.l2 rfl rfl rfl (Rn.heap (h2 := mOn (va_up A 0 (stZ (A 0) 0)) w g) (by rw [show stZ (A 0) 0 = A 0 from rfl, xup_self]) (xloop (fun c => Rn (d + 2) 118 2 [(0, .ref 139), (1, .int (nI c))] [] (mOn (va_up A 0 (stZ (A 0) c)) w g) n none (mOn (va_up A 0 (stF (A 0))) w g) n) 10 ?_ (fun c hc ih => ?_)))
  · refine Rn.steps 7 rfl ?_
    refine Rn.ialdN (m := 4) rfl rfl rfl (rfl) (by omega) (Nat.le_of_ble_eq_true rfl) ?_
    refine Rn.steps 3 rfl ?_
    refine Rn.ialdN (m := 1) rfl rfl rfl (rfl) (by omega) (Nat.le_of_ble_eq_true rfl) ?_
    refine Rn.steps 1 rfl ?_
    refine Rn.iastN (m := 4) rfl rfl rfl rfl (rfl) (by omega) (Nat.le_of_ble_eq_true rfl) ?_
    rw [mOn_0, bx_uu]
    refine Rn.steps 4 rfl ?_
    refine Rn.ialdN (m := 3) rfl rfl rfl (rfl) (by omega) (Nat.le_of_ble_eq_true rfl) ?_
    refine Rn.steps 2 rfl ?_
    refine Rn.iastN (m := 3) rfl rfl rfl rfl (rfl) (by omega) (Nat.le_of_ble_eq_true rfl) ?_
    rw [mOn_0, bx_uu]
    exact Rn.retE rfl rfl rfl rfl rfl
  · have hne2 : ¬ 2 * stZ (A 0) c 0 = 0 := by rw [stZ_lo _ _ _ (by omega)]; exact hne
    obtain ⟨p, hp⟩ : ∃ p, p = t32 (stZ (A 0) c (10 + 7 * c)) := ⟨_, rfl⟩
    have hne3 : ∀ x y, ¬ 2 * sx2 (sx1 (stZ (A 0) c) c x) c y 0 = 0 := by
      intro x y
      unfold sx2 sx1
      rw [upd_ne (by omega), upd_ne (by omega)]
      exact hne2
    refine Rn.br 3 rfl (fun hc5 => ?_) (fun hc5 => ?_)
    · exact (nI_ge hc (by omega) hc5).elim
    · refine Rn.steps 2 rfl ?_
      refine Rn.call rfl rfl rfl (c_isC d n (va_up A 0 (stZ (A 0) c)) w g c hc) ?_
      refine Rn.br 1 rfl (fun hc13 => ?_) (fun hc13 => ?_)
      · have hz : zt (stZ (A 0) c) c = false := bi_eq0 hc13
        refine Rn.steps 2 rfl ?_
        first
        | exact Rn.l2 rfl rfl (by rw [← nI_1]; rfl) (Rn.heap (by rw [stZ_f hz]) ih)
        | exact Rn.l2 rfl rfl (by rw [← nI_1]; rfl) (Rn.heap (by rw [stZ_t hz hp e1 e3]) ih)
      · have hz : zt (stZ (A 0) c) c = true := bi_ne0 hc13
        refine Rn.steps 3 rfl ?_
        refine Rn.call rfl rfl rfl (c_of1 (d + 1) n _ w g c 0 hc (by omega)) ?_
        refine Rn.call rfl rfl rfl (c_turned (d + 1) n _ _) ?_
        refine Rn.stk (st2 := [.int p]) (by rw [hp]; rfl) ?_
        refine Rn.steps 7 rfl ?_
        refine Rn.call rfl rfl rfl (c_of1 (d + 1) n _ w g c 3 hc (by omega)) ?_
        refine Rn.br 5 rfl (fun hc39 => ?_) (fun hc39 => ?_)
        · obtain ⟨x, hx⟩ : ∃ x : Int32, x = 1 := ⟨_, rfl⟩
          have e1 : (if rm p 4 = 1 then (1 : Int32) else 0) = x := by rw [hx]; exact if_pos hc39
          refine Rn.steps 3 rfl ?_
          refine Rn.call rfl rfl rfl (c_lay (d + 1) n _ w g c 3 _ hc (by omega)) ?_
          rw [bx_uu]
          refine Rn.heap (h2 := mOn (va_up A 0 (sx1 (stZ (A 0) c) c x)) w g) (by rw [hx]; rfl) ?_
          refine Rn.steps 6 rfl ?_
          refine Rn.call rfl rfl rfl (c_of1 (d + 1) n _ w g c 4 hc (by omega)) ?_
          refine Rn.br 5 rfl (fun hc64 => ?_) (fun hc64 => ?_)
          · obtain ⟨y, hy⟩ : ∃ y : Int32, y = 1 := ⟨_, rfl⟩
            have e3 : (if rm p 4 = 3 then (1 : Int32) else 0) = y := by rw [hy]; exact if_pos hc64
            refine Rn.steps 3 rfl ?_
            refine Rn.call rfl rfl rfl (c_lay (d + 1) n _ w g c 4 _ hc (by omega)) ?_
            rw [bx_uu]
            refine Rn.heap (h2 := mOn (va_up A 0 (sx2 (sx1 (stZ (A 0) c) c x) c y)) w g) (by rw [hy]; rfl) ?_
            refine Rn.steps 5 rfl ?_
            refine Rn.call rfl rfl rfl (c_otherSide d n _ w g (hne3 x y) _) ?_
            refine Rn.call rfl rfl rfl (c_lay (d + 1) n _ w g c 0 _ hc (by omega)) ?_
            rw [bx_uu]
            refine Rn.heap (h2 := mOn (va_up A 0 (sx3 (sx2 (sx1 (stZ (A 0) c) c x) c y) c p)) w g) (by rfl) ?_
            refine Rn.steps 6 rfl ?_
            refine Rn.call rfl rfl rfl (c_of1 (d + 1) n _ w g c 1 hc (by omega)) ?_
            refine Rn.steps 2 rfl ?_
            refine Rn.call rfl rfl rfl (c_lay (d + 1) n _ w g c 1 _ hc (by omega)) ?_
            rw [bx_uu]
            refine Rn.heap (h2 := mOn (va_up A 0 (sx4 (sx3 (sx2 (sx1 (stZ (A 0) c) c x) c y) c p) c)) w g) (by rfl) ?_
            refine Rn.steps 6 rfl ?_
            refine Rn.call rfl rfl rfl (c_of1 (d + 1) n _ w g c 5 hc (by omega)) ?_
            refine Rn.steps 2 rfl ?_
            refine Rn.call rfl rfl rfl (c_lay (d + 1) n _ w g c 5 _ hc (by omega)) ?_
            rw [bx_uu]
            refine Rn.heap (h2 := mOn (va_up A 0 (sx5 (sx4 (sx3 (sx2 (sx1 (stZ (A 0) c) c x) c y) c p) c) c)) w g) (by rfl) ?_
            refine Rn.steps 4 rfl ?_
            refine Rn.ialdN (m := 8) rfl rfl rfl (rfl) (by omega) (Nat.le_of_ble_eq_true rfl) ?_
            refine Rn.steps 2 rfl ?_
            refine Rn.iastN (m := 8) rfl rfl rfl rfl (rfl) (by omega) (Nat.le_of_ble_eq_true rfl) ?_
            rw [mOn_0, bx_uu]
            refine Rn.heap (h2 := mOn (va_up A 0 (sx6 (sx5 (sx4 (sx3 (sx2 (sx1 (stZ (A 0) c) c x) c y) c p) c) c))) w g) rfl ?_
            refine Rn.steps 2 rfl ?_
            first
            | exact Rn.l2 rfl rfl (by rw [← nI_1]; rfl) (Rn.heap (by rw [stZ_f hz]) ih)
            | exact Rn.l2 rfl rfl (by rw [← nI_1]; rfl) (Rn.heap (by rw [stZ_t hz hp e1 e3]) ih)
          · obtain ⟨y, hy⟩ : ∃ y : Int32, y = 0 := ⟨_, rfl⟩
            have e3 : (if rm p 4 = 3 then (1 : Int32) else 0) = y := by rw [hy]; exact if_neg hc64
            refine Rn.steps 2 rfl ?_
            refine Rn.call rfl rfl rfl (c_lay (d + 1) n _ w g c 4 _ hc (by omega)) ?_
            rw [bx_uu]
            refine Rn.heap (h2 := mOn (va_up A 0 (sx2 (sx1 (stZ (A 0) c) c x) c y)) w g) (by rw [hy]; rfl) ?_
            refine Rn.steps 5 rfl ?_
            refine Rn.call rfl rfl rfl (c_otherSide d n _ w g (hne3 x y) _) ?_
            refine Rn.call rfl rfl rfl (c_lay (d + 1) n _ w g c 0 _ hc (by omega)) ?_
            rw [bx_uu]
            refine Rn.heap (h2 := mOn (va_up A 0 (sx3 (sx2 (sx1 (stZ (A 0) c) c x) c y) c p)) w g) (by rfl) ?_
            refine Rn.steps 6 rfl ?_
            refine Rn.call rfl rfl rfl (c_of1 (d + 1) n _ w g c 1 hc (by omega)) ?_
            refine Rn.steps 2 rfl ?_
            refine Rn.call rfl rfl rfl (c_lay (d + 1) n _ w g c 1 _ hc (by omega)) ?_
            rw [bx_uu]
            refine Rn.heap (h2 := mOn (va_up A 0 (sx4 (sx3 (sx2 (sx1 (stZ (A 0) c) c x) c y) c p) c)) w g) (by rfl) ?_
            refine Rn.steps 6 rfl ?_
            refine Rn.call rfl rfl rfl (c_of1 (d + 1) n _ w g c 5 hc (by omega)) ?_
            refine Rn.steps 2 rfl ?_
            refine Rn.call rfl rfl rfl (c_lay (d + 1) n _ w g c 5 _ hc (by omega)) ?_
            rw [bx_uu]
            refine Rn.heap (h2 := mOn (va_up A 0 (sx5 (sx4 (sx3 (sx2 (sx1 (stZ (A 0) c) c x) c y) c p) c) c)) w g) (by rfl) ?_
            refine Rn.steps 4 rfl ?_
            refine Rn.ialdN (m := 8) rfl rfl rfl (rfl) (by omega) (Nat.le_of_ble_eq_true rfl) ?_
            refine Rn.steps 2 rfl ?_
            refine Rn.iastN (m := 8) rfl rfl rfl rfl (rfl) (by omega) (Nat.le_of_ble_eq_true rfl) ?_
            rw [mOn_0, bx_uu]
            refine Rn.heap (h2 := mOn (va_up A 0 (sx6 (sx5 (sx4 (sx3 (sx2 (sx1 (stZ (A 0) c) c x) c y) c p) c) c))) w g) rfl ?_
            refine Rn.steps 2 rfl ?_
            first
            | exact Rn.l2 rfl rfl (by rw [← nI_1]; rfl) (Rn.heap (by rw [stZ_f hz]) ih)
            | exact Rn.l2 rfl rfl (by rw [← nI_1]; rfl) (Rn.heap (by rw [stZ_t hz hp e1 e3]) ih)
        · obtain ⟨x, hx⟩ : ∃ x : Int32, x = 0 := ⟨_, rfl⟩
          have e1 : (if rm p 4 = 1 then (1 : Int32) else 0) = x := by rw [hx]; exact if_neg hc39
          refine Rn.steps 2 rfl ?_
          refine Rn.call rfl rfl rfl (c_lay (d + 1) n _ w g c 3 _ hc (by omega)) ?_
          rw [bx_uu]
          refine Rn.heap (h2 := mOn (va_up A 0 (sx1 (stZ (A 0) c) c x)) w g) (by rw [hx]; rfl) ?_
          refine Rn.steps 6 rfl ?_
          refine Rn.call rfl rfl rfl (c_of1 (d + 1) n _ w g c 4 hc (by omega)) ?_
          refine Rn.br 5 rfl (fun hc64 => ?_) (fun hc64 => ?_)
          · obtain ⟨y, hy⟩ : ∃ y : Int32, y = 1 := ⟨_, rfl⟩
            have e3 : (if rm p 4 = 3 then (1 : Int32) else 0) = y := by rw [hy]; exact if_pos hc64
            refine Rn.steps 3 rfl ?_
            refine Rn.call rfl rfl rfl (c_lay (d + 1) n _ w g c 4 _ hc (by omega)) ?_
            rw [bx_uu]
            refine Rn.heap (h2 := mOn (va_up A 0 (sx2 (sx1 (stZ (A 0) c) c x) c y)) w g) (by rw [hy]; rfl) ?_
            refine Rn.steps 5 rfl ?_
            refine Rn.call rfl rfl rfl (c_otherSide d n _ w g (hne3 x y) _) ?_
            refine Rn.call rfl rfl rfl (c_lay (d + 1) n _ w g c 0 _ hc (by omega)) ?_
            rw [bx_uu]
            refine Rn.heap (h2 := mOn (va_up A 0 (sx3 (sx2 (sx1 (stZ (A 0) c) c x) c y) c p)) w g) (by rfl) ?_
            refine Rn.steps 6 rfl ?_
            refine Rn.call rfl rfl rfl (c_of1 (d + 1) n _ w g c 1 hc (by omega)) ?_
            refine Rn.steps 2 rfl ?_
            refine Rn.call rfl rfl rfl (c_lay (d + 1) n _ w g c 1 _ hc (by omega)) ?_
            rw [bx_uu]
            refine Rn.heap (h2 := mOn (va_up A 0 (sx4 (sx3 (sx2 (sx1 (stZ (A 0) c) c x) c y) c p) c)) w g) (by rfl) ?_
            refine Rn.steps 6 rfl ?_
            refine Rn.call rfl rfl rfl (c_of1 (d + 1) n _ w g c 5 hc (by omega)) ?_
            refine Rn.steps 2 rfl ?_
            refine Rn.call rfl rfl rfl (c_lay (d + 1) n _ w g c 5 _ hc (by omega)) ?_
            rw [bx_uu]
            refine Rn.heap (h2 := mOn (va_up A 0 (sx5 (sx4 (sx3 (sx2 (sx1 (stZ (A 0) c) c x) c y) c p) c) c)) w g) (by rfl) ?_
            refine Rn.steps 4 rfl ?_
            refine Rn.ialdN (m := 8) rfl rfl rfl (rfl) (by omega) (Nat.le_of_ble_eq_true rfl) ?_
            refine Rn.steps 2 rfl ?_
            refine Rn.iastN (m := 8) rfl rfl rfl rfl (rfl) (by omega) (Nat.le_of_ble_eq_true rfl) ?_
            rw [mOn_0, bx_uu]
            refine Rn.heap (h2 := mOn (va_up A 0 (sx6 (sx5 (sx4 (sx3 (sx2 (sx1 (stZ (A 0) c) c x) c y) c p) c) c))) w g) rfl ?_
            refine Rn.steps 2 rfl ?_
            first
            | exact Rn.l2 rfl rfl (by rw [← nI_1]; rfl) (Rn.heap (by rw [stZ_f hz]) ih)
            | exact Rn.l2 rfl rfl (by rw [← nI_1]; rfl) (Rn.heap (by rw [stZ_t hz hp e1 e3]) ih)
          · obtain ⟨y, hy⟩ : ∃ y : Int32, y = 0 := ⟨_, rfl⟩
            have e3 : (if rm p 4 = 3 then (1 : Int32) else 0) = y := by rw [hy]; exact if_neg hc64
            refine Rn.steps 2 rfl ?_
            refine Rn.call rfl rfl rfl (c_lay (d + 1) n _ w g c 4 _ hc (by omega)) ?_
            rw [bx_uu]
            refine Rn.heap (h2 := mOn (va_up A 0 (sx2 (sx1 (stZ (A 0) c) c x) c y)) w g) (by rw [hy]; rfl) ?_
            refine Rn.steps 5 rfl ?_
            refine Rn.call rfl rfl rfl (c_otherSide d n _ w g (hne3 x y) _) ?_
            refine Rn.call rfl rfl rfl (c_lay (d + 1) n _ w g c 0 _ hc (by omega)) ?_
            rw [bx_uu]
            refine Rn.heap (h2 := mOn (va_up A 0 (sx3 (sx2 (sx1 (stZ (A 0) c) c x) c y) c p)) w g) (by rfl) ?_
            refine Rn.steps 6 rfl ?_
            refine Rn.call rfl rfl rfl (c_of1 (d + 1) n _ w g c 1 hc (by omega)) ?_
            refine Rn.steps 2 rfl ?_
            refine Rn.call rfl rfl rfl (c_lay (d + 1) n _ w g c 1 _ hc (by omega)) ?_
            rw [bx_uu]
            refine Rn.heap (h2 := mOn (va_up A 0 (sx4 (sx3 (sx2 (sx1 (stZ (A 0) c) c x) c y) c p) c)) w g) (by rfl) ?_
            refine Rn.steps 6 rfl ?_
            refine Rn.call rfl rfl rfl (c_of1 (d + 1) n _ w g c 5 hc (by omega)) ?_
            refine Rn.steps 2 rfl ?_
            refine Rn.call rfl rfl rfl (c_lay (d + 1) n _ w g c 5 _ hc (by omega)) ?_
            rw [bx_uu]
            refine Rn.heap (h2 := mOn (va_up A 0 (sx5 (sx4 (sx3 (sx2 (sx1 (stZ (A 0) c) c x) c y) c p) c) c)) w g) (by rfl) ?_
            refine Rn.steps 4 rfl ?_
            refine Rn.ialdN (m := 8) rfl rfl rfl (rfl) (by omega) (Nat.le_of_ble_eq_true rfl) ?_
            refine Rn.steps 2 rfl ?_
            refine Rn.iastN (m := 8) rfl rfl rfl rfl (rfl) (by omega) (Nat.le_of_ble_eq_true rfl) ?_
            rw [mOn_0, bx_uu]
            refine Rn.heap (h2 := mOn (va_up A 0 (sx6 (sx5 (sx4 (sx3 (sx2 (sx1 (stZ (A 0) c) c x) c y) c p) c) c))) w g) rfl ?_
            refine Rn.steps 2 rfl ?_
            first
            | exact Rn.l2 rfl rfl (by rw [← nI_1]; rfl) (Rn.heap (by rw [stZ_f hz]) ih)
            | exact Rn.l2 rfl rfl (by rw [← nI_1]; rfl) (Rn.heap (by rw [stZ_t hz hp e1 e3]) ih)
end MODEL4
end
section
/-! the reference: runs, what-if answers, of, count -/
def rz (P : Nat) : Nat → Nat → (Nat → Int32) → Nat × (Nat → Int32) | 0, i, z => (i, z) | r + 1, i, z => if z 9 = 0 then rz P r (i + 1) (upd (stF z) 9 (if r = 0 then 0 else whyF (stF z) P)) else (i, z)
def runZ (P N : Nat) (z : Nat → Int32) : Nat × (Nat → Int32) := rz P N 0 (upd z 9 (whyF z P))
theorem upd_self {f : Nat → Int32} {k : Nat} : upd f k (f k) = f := by
  funext j
  unfold upd
  by_cases hj : j = k
  · rw [if_pos hj, hj]
  · rw [if_neg hj]
theorem stF_0 (z : Nat → Int32) : stF z 0 = z 0 := by
  unfold stF
  rw [upd_ne (by omega), upd_ne (by omega), stZ_lo _ _ _ (by omega)]
theorem xeta {A : Nat → Nat → Int32} {w : Nat → Int32} {g : xHp} : mOn A w g = mOn (mZ A (A 0) (A 5)) (upd w 2 (w 2)) g := by rw [mZ_self, upd_self]
def caF (z : Nat → Int32) (P : Nat) (p : Int32) : Bool := isFr z p && decide (¬ mi z (tpm z 10 + 1) P (upd (plz z) (tpm z 10) p) 100 0 < 100)
def frN (z : Nat → Int32) (P : Nat) : Nat → Int32 | 0 => 0 | c + 1 => frN z P c + bi (caF z P (nI c))
def ffN (z : Nat → Int32) (P : Nat) : Nat → Nat → Nat | 0, c => c | r + 1, c => cond (caF z P (nI c)) c (ffN z P r (c + 1))
/-- period: fuel, steps done: none if two meet or 100 are done -/
def peN (z : Nat → Int32) (m P : Nat) (q : Nat → Int32) : Nat → Nat → Option Nat | 0, _ => none | r + 1, c => if mtz z (pls (2 * z 0) m q c) m P = -6 then cond (mAb z (pls (2 * z 0) m q (c + 1)) m 10) (some (c + 1)) (peN z m P q r (c + 1)) else none
def peR (z : Nat → Int32) (P : Nat) : Int32 := if tpm z 10 = 0 then -5 else match peN z (tpm z 10) P (plz z) 100 0 with | some c => nI c | none => -6
/-- lasts: most, steps done -/
def laN (z : Nat → Int32) (m P : Nat) (q : Nat → Int32) : Nat → Nat → Nat | 0, c => c | r + 1, c => if mtz z (pls (2 * z 0) m q c) m P = -6 then laN z m P q r (c + 1) else c
theorem bi_1 {b : Bool} (h : b = true) : (1 : Int32) = bi b := by rw [h]; rfl
theorem bi_0 {b : Bool} (h : b = false) : (0 : Int32) = bi b := by rw [h]; rfl
section RN6
variable {d i pc : Nat} {ls : xLs} {st : List Value} {h h' : xHp} {n n' : Nat} {v : Option Value}
theorem Rn.swOut {e : xEn} {df lo hi : Int} {offs : Array Int} {x : Int32} {r : List Value} (hf : xfind i pc = some e) (he : e.1 = .tableswitch df lo hi offs) (hx : x.toInt < lo ∨ hi < x.toInt) (tgt : Nat) (ht : (pc : Int) + df = (tgt : Int)) (kk : Rn d i tgt ls r h n v h' n') : Rn d i pc ls (.int x :: r) h n v h' n' := by
  obtain ⟨ins, e2⟩ := e
  dsimp only at he
  subst he
  refine Rn.step1 hf rfl ?_ kk
  show xgp (0 ≤ (pc : Int) + xsw x.toInt df lo hi offs) _ = _
  have e1 : xsw x.toInt df lo hi offs = df := if_pos hx
  rw [e1, ht, xgp_pos (Int.natCast_nonneg tgt)]
  rfl
end RN6
section MODEL5
variable (d n : Nat) (A : Nat → Nat → Int32) (w : Nat → Int32) (g h : xHp)
theorem k_runNow (z a : Nat → Int32) (x : Int32) (P : Nat) (hP : z 0 = nI P) (h2 : 2 ≤ P) (h6 : P ≤ 6) (N : Nat) (hN : N ≤ 99) : ∃ a' x', Rn (d + 4) 120 0 [(0, .ref 139), (1, .int (nI N))] [] (mOn (mZ A z a) (upd w 2 x) g) n (some (.int (nI (runZ P N z).1))) (mOn (mZ A (runZ P N z).2 a') (upd w 2 x') g) n := by
  have key : ∀ z a x, z 0 = nI P → ∃ a' x', Rn (d + 4) 120 13 [(0, .ref 139), (1, .int (nI N)), (2, .int (nI 0))] [] (mOn (mZ A z a) (upd w 2 x) g) n (some (.int (nI (rz P (N - 0) 0 z).1))) (mOn (mZ A (rz P (N - 0) 0 z).2 a') (upd w 2 x') g) n := by
    refine xloop (fun c => ∀ z a x, z 0 = nI P → ∃ a' x', Rn (d + 4) 120 13 [(0, .ref 139), (1, .int (nI N)), (2, .int (nI c))] [] (mOn (mZ A z a) (upd w 2 x) g) n (some (.int (nI (rz P (N - c) c z).1))) (mOn (mZ A (rz P (N - c) c z).2 a') (upd w 2 x') g) n) N ?_ (fun c hc ih => ?_)
    · intro z a x hP
      refine ⟨a, x, ?_⟩
      rw [show rz P (N - N) N z = (N, z) by rw [Nat.sub_self]; rfl]
      refine Rn.br 3 rfl (fun hc15 => ?_) (fun hc15 => ?_)
      · refine Rn.steps 1 rfl ?_
        exact Rn.retE rfl rfl rfl rfl rfl
      · exact (hc15 (nI_le (Nat.le_refl _) (by omega))).elim
    · intro z a x hP
      have hs : N - c = (N - (c + 1)) + 1 := by omega
      by_cases hz : z 9 = 0
      · by_cases hr : c + 1 = N
        · have hrz : rz P (N - c) c z = rz P (N - (c + 1)) (c + 1) (upd (stF z) 9 0) := by rw [hs, rz, if_pos hz, if_pos (by omega)]
          rw [hrz]
          obtain ⟨a', x', g2⟩ := ih (upd (stF z) 9 0) a x (by rw [upd_ne (by omega), stF_0]; exact hP)
          refine ⟨a', x', ?_⟩
          refine Rn.br 3 rfl (fun hc15 => ?_) (fun hc15 => ?_)
          · exact (nI_ge hc (by omega) hc15).elim
          · refine Rn.steps 3 rfl ?_
            refine Rn.ialdN (m := 9) rfl rfl rfl (rfl) (by omega) (Nat.le_of_ble_eq_true rfl) ?_
            refine Rn.br 1 rfl (fun hc25 => ?_) (fun hc25 => ?_)
            · refine Rn.steps 1 rfl ?_
              refine Rn.call rfl rfl rfl (c_step (d + 1) n (mZ A z a) _ g (x2ne hP h2 h6)) ?_
              rw [mZ_up0]
              refine Rn.br 7 rfl (fun hc43 => ?_) (fun hc43 => ?_)
              · refine Rn.steps 1 rfl ?_
                refine Rn.iastN (m := 9) rfl rfl rfl rfl (rfl) (by omega) (Nat.le_of_ble_eq_true rfl) ?_
                rw [mOn_0, mZ_up0]
                refine Rn.steps 1 rfl ?_
                exact Rn.l3 rfl rfl rfl (by rw [← nI_1]; rfl) g2
              · exact (hc43 (by rw [nI_1]; exact nI_le (by omega) (by omega))).elim
            · exact (hc25 hz).elim
        · have hrz : rz P (N - c) c z = rz P (N - (c + 1)) (c + 1) (upd (stF z) 9 (whyF (stF z) P)) := by rw [hs, rz, if_pos hz, if_neg (by omega)]
          rw [hrz]
          obtain ⟨a', x', g2⟩ := ih (upd (stF z) 9 (whyF (stF z) P)) (tpl (stF z) a 10) (nI (tpm (stF z) 10)) (by rw [upd_ne (by omega), stF_0]; exact hP)
          refine ⟨a', x', ?_⟩
          refine Rn.br 3 rfl (fun hc15 => ?_) (fun hc15 => ?_)
          · exact (nI_ge hc (by omega) hc15).elim
          · refine Rn.steps 3 rfl ?_
            refine Rn.ialdN (m := 9) rfl rfl rfl (rfl) (by omega) (Nat.le_of_ble_eq_true rfl) ?_
            refine Rn.br 1 rfl (fun hc25 => ?_) (fun hc25 => ?_)
            · refine Rn.steps 1 rfl ?_
              refine Rn.call rfl rfl rfl (c_step (d + 1) n (mZ A z a) _ g (x2ne hP h2 h6)) ?_
              rw [mZ_up0]
              refine Rn.br 7 rfl (fun hc43 => ?_) (fun hc43 => ?_)
              · exact (nI_ge (a := c + 1) (b := N) (by omega) (by omega) (by rw [← nI_1]; exact hc43)).elim
              · refine Rn.steps 1 rfl ?_
                refine Rn.call rfl rfl rfl (k_why d n A w g (stF z) a x P (by rw [stF_0]; exact hP) h2 h6) ?_
                refine Rn.steps 1 rfl ?_
                refine Rn.iastN (m := 9) rfl rfl rfl rfl (rfl) (by omega) (Nat.le_of_ble_eq_true rfl) ?_
                rw [mOn_0, mZ_up0]
                refine Rn.steps 1 rfl ?_
                exact Rn.l3 rfl rfl rfl (by rw [← nI_1]; rfl) g2
            · exact (hc25 hz).elim
      · have hrz : rz P (N - c) c z = (c, z) := by rw [hs, rz, if_neg hz]
        rw [hrz]
        refine ⟨a, x, ?_⟩
        refine Rn.br 3 rfl (fun hc15 => ?_) (fun hc15 => ?_)
        · exact (nI_ge hc (by omega) hc15).elim
        · refine Rn.steps 3 rfl ?_
          refine Rn.ialdN (m := 9) rfl rfl rfl (rfl) (by omega) (Nat.le_of_ble_eq_true rfl) ?_
          refine Rn.br 1 rfl (fun hc25 => ?_) (fun hc25 => ?_)
          · exact (hz hc25).elim
          · refine Rn.steps 1 rfl ?_
            exact Rn.retE rfl rfl rfl rfl rfl
  obtain ⟨a', x', g2⟩ := key (upd z 9 (whyF z P)) (tpl z a 10) (nI (tpm z 10)) (by rw [upd_ne (by omega)]; exact hP)
  refine ⟨a', x', ?_⟩
  refine Rn.steps 6 rfl ?_
  refine Rn.call rfl rfl rfl (k_why d n A w g z a x P hP h2 h6) ?_
  refine Rn.iastN (m := 9) rfl rfl rfl rfl (rfl) (by omega) (Nat.le_of_ble_eq_true rfl) ?_
  rw [mOn_0, mZ_up0]
  exact Rn.l3 rfl rfl rfl rfl g2
theorem c_run_bad (x : Int32) (hx : wnr (A 0) x < 0) : Rn (d + 5) 121 0 [(0, .ref 139), (1, .int x)] [] (mOn A w g) n (some (.int (wnr (A 0) x))) (mOn A w g) n := by
  refine Rn.steps 2 rfl ?_
  refine Rn.call rfl rfl rfl (c_whyNotRun (d + 3) n A w g x) ?_
  refine Rn.br 3 rfl (fun hc7 => ?_) (fun hc7 => ?_)
  · exact absurd hx (Int32.not_lt.mpr hc7)
  · refine Rn.steps 1 rfl ?_
    exact Rn.retE rfl rfl rfl rfl rfl
theorem c_run (s : Nat) (hs : w 0 = nI s) (hs6 : s ≤ 6) (P : Nat) (hP : A 0 0 = nI P) (h2 : 2 ≤ P) (h6 : P ≤ 6) (N : Nat) (hN : N ≤ 99) (hx : ¬ wnr (A 0) (nI N) < 0) : ∃ a' x', Rn (d + 5) 121 0 [(0, .ref 139), (1, .int (nI N))] [] (mOn A w g) n (some (.int (nI (runZ P N (A 0)).1))) (mOn (mZ (rA A s) (runZ P N (A 0)).2 a') (upd (rW w s) 2 x') g) n := by
  obtain ⟨a', x', g2⟩ := k_runNow d n (rA A s) (rW w s) g (A 0) (A 5) (rW w s 2) P hP h2 h6 N hN
  refine ⟨a', x', ?_⟩
  refine Rn.steps 2 rfl ?_
  refine Rn.call rfl rfl rfl (c_whyNotRun (d + 3) n A w g (nI N)) ?_
  refine Rn.br 3 rfl (fun hc7 => ?_) (fun hc7 => ?_)
  · refine Rn.steps 1 rfl ?_
    refine Rn.call rfl rfl rfl (c_record (d + 3) n A w g s hs hs6) ?_
    refine Rn.heap (xeta (A := rA A s) (w := rW w s)) ?_
    refine Rn.steps 2 rfl ?_
    refine Rn.call rfl rfl rfl g2 ?_
    exact Rn.retE rfl rfl rfl rfl rfl
  · exact absurd (Int32.not_le.mp hc7) hx
theorem k_canAdd (z a : Nat → Int32) (x : Int32) (P : Nat) (hP : z 0 = nI P) (h2 : 2 ≤ P) (h6 : P ≤ 6) (p : Int32) : ∃ a' x', Rn (d + 4) 136 0 [(0, .ref 139), (1, .int p)] [] (mOn (mZ A z a) (upd w 2 x) g) n (some (.int (bi (caF z P p)))) (mOn (mZ A z a') (upd w 2 x') g) n := by
  have hm := tpm_le z 10
  cases hfr : isFr z p with
  | false =>
    refine ⟨a, x, ?_⟩
    refine Rn.steps 2 rfl ?_
    refine Rn.call rfl rfl rfl (c_isFree d n (mZ A z a) (upd w 2 x) g (x2ne hP h2 h6) p) ?_
    refine Rn.br 1 rfl (fun hc5 => ?_) (fun hc5 => ?_)
    · refine Rn.steps 1 rfl ?_
      exact Rn.retE rfl rfl rfl (by unfold caF; rw [hfr]; rfl) rfl
    · exact absurd (bi_ne0 hc5) (by rw [show isFr (mZ A z a 0) p = false from hfr]; decide)
  | true =>
    obtain ⟨a', g1, g2⟩ := k_meetsIn d n A w g z (upd (plz z) (tpm z 10) p) (tpm z 10 + 1) P hP h2 h6 (by omega) (upd (tpl z a 10) (tpm z 10) p) (by
      intro k hk
      unfold upd
      by_cases hk2 : k = tpm z 10
      · rw [if_pos hk2, if_pos hk2]
      · rw [if_neg hk2, if_neg hk2]; exact Ag.tp z a _ 10 k (by omega))
    refine ⟨a', nI (tpm z 10 + 1), ?_⟩
    refine Rn.steps 2 rfl ?_
    refine Rn.call rfl rfl rfl (c_isFree d n (mZ A z a) (upd w 2 x) g (x2ne hP h2 h6) p) ?_
    refine Rn.br 1 rfl (fun hc5 => ?_) (fun hc5 => ?_)
    · exact absurd (bi_eq0 hc5) (by rw [show isFr (mZ A z a 0) p = true from hfr]; decide)
    · refine Rn.steps 1 rfl ?_
      refine Rn.call rfl rfl rfl (k_take (d + 1) n A w g z a x) ?_
      refine Rn.steps 5 rfl ?_
      refine Rn.iastN (m := tpm z 10) rfl rfl rfl rfl (rfl) (by omega) (Nat.le_of_ble_eq_true rfl) ?_
      rw [mOn_5, mZ_up5]
      refine Rn.steps 5 rfl ?_
      refine Rn.stk (st2 := [.int (nI (tpm z 10 + 1)), .ref 139]) (by rw [← nI_1]; rfl) ?_
      refine Rn.steps 1 rfl ?_
      refine Rn.heap (mOn_w2 (x := nI (tpm z 10 + 1))) ?_
      rw [upd_upd]
      refine Rn.steps 1 rfl ?_
      refine Rn.call rfl rfl rfl g2 ?_
      refine Rn.br 2 rfl (fun hc40 => ?_) (fun hc40 => ?_)
      · have e1 : ¬ mi z (tpm z 10 + 1) P (upd (plz z) (tpm z 10) p) 100 0 < 100 := fun q => by
          have q2 : miR z (tpm z 10 + 1) P (upd (plz z) (tpm z 10) p) = -6 := hc40
          unfold miR at q2
          rw [if_pos q] at q2
          exact nI_pos (n := mi z (tpm z 10 + 1) P (upd (plz z) (tpm z 10) p) 100 0 + 1) (by omega) (by rw [q2]; decide)
        have e2 : caF z P p = true := by unfold caF; rw [hfr, decide_eq_true e1]; rfl
        refine Rn.steps 2 rfl ?_
        exact Rn.retE rfl rfl rfl (by rw [e2]; rfl) rfl
      · have e1 : mi z (tpm z 10 + 1) P (upd (plz z) (tpm z 10) p) 100 0 < 100 := by
          rcases Nat.lt_or_ge (mi z (tpm z 10 + 1) P (upd (plz z) (tpm z 10) p) 100 0) 100 with q | q
          · exact q
          · exact (hc40 (if_neg (by omega))).elim
        have e2 : caF z P p = false := by unfold caF; rw [hfr, decide_eq_false (fun q => q e1)]; rfl
        refine Rn.steps 1 rfl ?_
        exact Rn.retE rfl rfl rfl (by rw [e2]; rfl) rfl
theorem k_free (z a : Nat → Int32) (x : Int32) (P : Nat) (hP : z 0 = nI P) (h2 : 2 ≤ P) (h6 : P ≤ 6) : ∃ a' x', Rn (d + 5) 137 0 [(0, .ref 139)] [] (mOn (mZ A z a) (upd w 2 x) g) n (some (.int (frN z P (8 * P)))) (mOn (mZ A z a') (upd w 2 x') g) n := by
  have key : ∀ a x, ∃ a' x', Rn (d + 5) 137 4 [(0, .ref 139), (1, .int (frN z P 0)), (2, .int (nI 0))] [] (mOn (mZ A z a) (upd w 2 x) g) n (some (.int (frN z P (8 * P)))) (mOn (mZ A z a') (upd w 2 x') g) n := by
    refine xloop (fun c => ∀ a x, ∃ a' x', Rn (d + 5) 137 4 [(0, .ref 139), (1, .int (frN z P c)), (2, .int (nI c))] [] (mOn (mZ A z a) (upd w 2 x) g) n (some (.int (frN z P (8 * P)))) (mOn (mZ A z a') (upd w 2 x') g) n) (8 * P) ?_ (fun c hc ih => ?_)
    · intro a x
      refine ⟨a, x, ?_⟩
      refine Rn.steps 3 rfl ?_
      refine Rn.call rfl rfl rfl (c_horns (d + 4) n (mZ A z a) (upd w 2 x) g) ?_
      refine Rn.br 2 rfl (fun hc11 => ?_) (fun hc11 => ?_)
      · refine Rn.steps 1 rfl ?_
        exact Rn.retE rfl rfl rfl rfl rfl
      · exact (hc11 (by show 4 * (2 * z 0) ≤ _; rw [hP, x8P]; exact nI_le (Nat.le_refl _) (by omega))).elim
    · intro a x
      obtain ⟨a1, x1, g1⟩ := k_canAdd d n A w g z a x P hP h2 h6 (nI c)
      obtain ⟨a', x', g2⟩ := ih a1 x1
      refine ⟨a', x', ?_⟩
      refine Rn.steps 3 rfl ?_
      refine Rn.call rfl rfl rfl (c_horns (d + 4) n (mZ A z a) (upd w 2 x) g) ?_
      refine Rn.br 2 rfl (fun hc11 => ?_) (fun hc11 => ?_)
      · exact (nI_ge hc (by omega) (by have q : 4 * (2 * z 0) ≤ nI c := hc11; rw [hP, x8P] at q; exact q)).elim
      · refine Rn.steps 3 rfl ?_
        refine Rn.call rfl rfl rfl g1 ?_
        refine Rn.br 1 rfl (fun hc20 => ?_) (fun hc20 => ?_)
        · have hz := bi_eq0 hc20
          refine Rn.steps 5 rfl ?_
          exact Rn.l3 rfl rfl (by rw [frN, hz]; rfl) (by rw [← nI_1]; rfl) g2
        · have hz := bi_ne0 hc20
          refine Rn.steps 6 rfl ?_
          exact Rn.l3 rfl rfl (by rw [frN, hz]; rfl) (by rw [← nI_1]; rfl) g2
  obtain ⟨a', x', g2⟩ := key a x
  exact ⟨a', x', Rn.steps 4 rfl (Rn.l3 rfl rfl rfl rfl g2)⟩
theorem k_firstFree (z a : Nat → Int32) (x : Int32) (P : Nat) (hP : z 0 = nI P) (h2 : 2 ≤ P) (h6 : P ≤ 6) : ∃ a' x', Rn (d + 5) 138 0 [(0, .ref 139)] [] (mOn (mZ A z a) (upd w 2 x) g) n (some (.int (if ffN z P (8 * P) 0 < 8 * P then nI (ffN z P (8 * P) 0) else -6))) (mOn (mZ A z a') (upd w 2 x') g) n := by
  have key : ∀ a x, ∃ a' x', Rn (d + 5) 138 2 [(0, .ref 139), (1, .int (nI 0))] [] (mOn (mZ A z a) (upd w 2 x) g) n (some (.int (if ffN z P (8 * P - 0) 0 < 8 * P then nI (ffN z P (8 * P - 0) 0) else -6))) (mOn (mZ A z a') (upd w 2 x') g) n := by
    refine xloop (fun c => ∀ a x, ∃ a' x', Rn (d + 5) 138 2 [(0, .ref 139), (1, .int (nI c))] [] (mOn (mZ A z a) (upd w 2 x) g) n (some (.int (if ffN z P (8 * P - c) c < 8 * P then nI (ffN z P (8 * P - c) c) else -6))) (mOn (mZ A z a') (upd w 2 x') g) n) (8 * P) ?_ (fun c hc ih => ?_)
    · intro a x
      refine ⟨a, x, ?_⟩
      rw [show ffN z P (8 * P - 8 * P) (8 * P) = 8 * P by rw [Nat.sub_self]; rfl, if_neg (Nat.lt_irrefl _)]
      refine Rn.steps 3 rfl ?_
      refine Rn.call rfl rfl rfl (c_horns (d + 4) n (mZ A z a) (upd w 2 x) g) ?_
      refine Rn.br 2 rfl (fun hc9 => ?_) (fun hc9 => ?_)
      · refine Rn.steps 3 rfl ?_
        refine Rn.call rfl rfl rfl (c_horns (d + 4) n (mZ A z a) (upd w 2 x) g) ?_
        refine Rn.br 2 rfl (fun hc33 => ?_) (fun hc33 => ?_)
        · refine Rn.steps 1 rfl ?_
          exact Rn.retE rfl rfl rfl rfl rfl
        · exact (hc33 (by show 4 * (2 * z 0) ≤ _; rw [hP, x8P]; exact nI_le (Nat.le_refl _) (by omega))).elim
      · exact (hc9 (by show 4 * (2 * z 0) ≤ _; rw [hP, x8P]; exact nI_le (Nat.le_refl _) (by omega))).elim
    · intro a x
      obtain ⟨a1, x1, g1⟩ := k_canAdd d n A w g z a x P hP h2 h6 (nI c)
      have hs : 8 * P - c = (8 * P - (c + 1)) + 1 := by omega
      cases hz : caF z P (nI c) with
      | false =>
        obtain ⟨a', x', g2⟩ := ih a1 x1
        refine ⟨a', x', ?_⟩
        rw [show ffN z P (8 * P - c) c = ffN z P (8 * P - (c + 1)) (c + 1) by rw [hs, ffN, hz]; rfl]
        refine Rn.steps 3 rfl ?_
        refine Rn.call rfl rfl rfl (c_horns (d + 4) n (mZ A z a) (upd w 2 x) g) ?_
        refine Rn.br 2 rfl (fun hc9 => ?_) (fun hc9 => ?_)
        · exact (nI_ge hc (by omega) (by have q : 4 * (2 * z 0) ≤ nI c := hc9; rw [hP, x8P] at q; exact q)).elim
        · refine Rn.steps 2 rfl ?_
          refine Rn.call rfl rfl rfl g1 ?_
          refine Rn.br 1 rfl (fun hc17 => ?_) (fun hc17 => ?_)
          · refine Rn.steps 2 rfl ?_
            exact Rn.l2 rfl rfl (by rw [← nI_1]; rfl) g2
          · exact absurd (bi_ne0 hc17) (by rw [hz]; decide)
      | true =>
        refine ⟨a1, x1, ?_⟩
        rw [show ffN z P (8 * P - c) c = c by rw [hs, ffN, hz]; rfl, if_pos hc]
        refine Rn.steps 3 rfl ?_
        refine Rn.call rfl rfl rfl (c_horns (d + 4) n (mZ A z a) (upd w 2 x) g) ?_
        refine Rn.br 2 rfl (fun hc9 => ?_) (fun hc9 => ?_)
        · exact (nI_ge hc (by omega) (by have q : 4 * (2 * z 0) ≤ nI c := hc9; rw [hP, x8P] at q; exact q)).elim
        · refine Rn.steps 2 rfl ?_
          refine Rn.call rfl rfl rfl g1 ?_
          refine Rn.br 1 rfl (fun hc17 => ?_) (fun hc17 => ?_)
          · exact absurd (bi_eq0 hc17) (by rw [hz]; decide)
          · refine Rn.steps 3 rfl ?_
            refine Rn.call rfl rfl rfl (c_horns (d + 4) n (mZ A z a1) (upd w 2 x1) g) ?_
            refine Rn.br 2 rfl (fun hc33 => ?_) (fun hc33 => ?_)
            · exact (nI_ge hc (by omega) (by have q : 4 * (2 * z 0) ≤ nI c := hc33; rw [hP, x8P] at q; exact q)).elim
            · refine Rn.steps 2 rfl ?_
              exact Rn.retE rfl rfl rfl rfl rfl
  obtain ⟨a', x', g2⟩ := key a x
  exact ⟨a', x', Rn.steps 2 rfl (Rn.l2 rfl rfl rfl g2)⟩
end MODEL5
end
section
/-! the reference: period, lasts, meeting, of, count -/
def laR (z : Nat → Int32) (P L : Nat) : Nat := if tpm z 10 = 0 then 0 else if 0 < mSum z 2 10 then 0 else laN z (tpm z 10) P (plz z) L 0
def meR (z : Nat → Int32) (P : Nat) (y : Int32) : Int32 :=
  if miR z (tpm z 10) P (plz z) = -6 then -6 else if y = 0 then miR z (tpm z 10) P (plz z) else if y = 1 then mtz z (pls (2 * z 0) (tpm z 10) (plz z) (mi z (tpm z 10) P (plz z) 100 0)) (tpm z 10) P
  else (mCt z (pls (2 * z 0) (tpm z 10) (plz z) (mi z (tpm z 10) P (plz z) 100 0)) (if y = 2 then 4 * mtz z (pls (2 * z 0) (tpm z 10) (plz z) (mi z (tpm z 10) P (plz z) 100 0)) (tpm z 10) P else o32 (2 * z 0) (4 * mtz z (pls (2 * z 0) (tpm z 10) (plz z) (mi z (tpm z 10) P (plz z) 100 0)) (tpm z 10) P)) 10).1
section MODEL6
variable (d n : Nat) (A : Nat → Nat → Int32) (w : Nat → Int32) (g h : xHp)
theorem k_period (z a : Nat → Int32) (x : Int32) (P : Nat) (hP : z 0 = nI P) (h2 : 2 ≤ P) (h6 : P ≤ 6) : ∃ a' x', Rn (d + 3) 140 0 [(0, .ref 139)] [] (mOn (mZ A z a) (upd w 2 x) g) n (some (.int (peR z P))) (mOn (mZ A z a') (upd w 2 x') g) n := by
  have hm10 := tpm_le z 10
  have key : ∀ (q : Nat → Int32) (m : Nat), m ≤ 11 → ∀ a, Ag m a (pls (2 * z 0) m q 0) → ∃ a', Rn (d + 3) 140 16 [(0, .ref 139), (1, .int (nI (0 + 1)))] [] (mOn (mZ A z a) (upd w 2 (nI m)) g) n (some (.int (match peN z m P q (100 - 0) 0 with | some c => nI c | none => -6))) (mOn (mZ A z a') (upd w 2 (nI m)) g) n := by
    intro q m hm
    refine xloop (fun c => ∀ a, Ag m a (pls (2 * z 0) m q c) → ∃ a', Rn (d + 3) 140 16 [(0, .ref 139), (1, .int (nI (c + 1)))] [] (mOn (mZ A z a) (upd w 2 (nI m)) g) n (some (.int (match peN z m P q (100 - c) c with | some c => nI c | none => -6))) (mOn (mZ A z a') (upd w 2 (nI m)) g) n) 100 ?_ (fun c hc ih => ?_)
    · intro a ha
      refine ⟨a, ?_⟩
      refine Rn.steps 4 rfl ?_
      exact Rn.retE rfl rfl rfl rfl rfl
    · intro a ha
      have hs : 100 - c = (100 - (c + 1)) + 1 := by omega
      by_cases hz : mtz z (pls (2 * z 0) m q c) m P = -6
      · have hst : Ag m (sPl (2 * z 0) a m) (pls (2 * z 0) m q (c + 1)) := ha.st _
        cases hb : mAb z (pls (2 * z 0) m q (c + 1)) m 10 with
        | true =>
          refine ⟨sPl (2 * z 0) a m, ?_⟩
          rw [show peN z m P q (100 - c) c = some (c + 1) by rw [hs, peN, if_pos hz, hb]; rfl]
          refine Rn.br 3 rfl (fun hc19 => ?_) (fun hc19 => ?_)
          · exact (nI_nlt (a := 100) (b := c + 1) (by omega) (by omega) hc19).elim
          · refine Rn.steps 1 rfl ?_
            refine Rn.call rfl rfl rfl (k_meetAt d n A w g z a _ m P hP h2 h6 hm ha) ?_
            refine Rn.br 2 rfl (fun hc28 => ?_) (fun hc28 => ?_)
            · refine Rn.steps 1 rfl ?_
              refine Rn.call rfl rfl rfl (k_step d n A w g z a m P hP h2 h6 hm) ?_
              refine Rn.steps 1 rfl ?_
              refine Rn.call rfl rfl rfl (c_areBack d n (mZ A z (sPl (2 * z 0) a m)) _ g m upd_eq hm) ?_
              refine Rn.br 1 rfl (fun hc42 => ?_) (fun hc42 => ?_)
              · exact absurd (bi_eq0 hc42) (by rw [show mAb (mZ A z (sPl (2 * z 0) a m) 0) (mZ A z (sPl (2 * z 0) a m) 5) m 10 = true from (hst.ab z 10).trans hb]; decide)
              · refine Rn.steps 1 rfl ?_
                exact Rn.retE rfl rfl rfl rfl rfl
            · exact (hc28 hz).elim
        | false =>
          obtain ⟨a', g2⟩ := ih (sPl (2 * z 0) a m) hst
          refine ⟨a', ?_⟩
          rw [show peN z m P q (100 - c) c = peN z m P q (100 - (c + 1)) (c + 1) by rw [hs, peN, if_pos hz, hb]; rfl]
          refine Rn.br 3 rfl (fun hc19 => ?_) (fun hc19 => ?_)
          · exact (nI_nlt (a := 100) (b := c + 1) (by omega) (by omega) hc19).elim
          · refine Rn.steps 1 rfl ?_
            refine Rn.call rfl rfl rfl (k_meetAt d n A w g z a _ m P hP h2 h6 hm ha) ?_
            refine Rn.br 2 rfl (fun hc28 => ?_) (fun hc28 => ?_)
            · refine Rn.steps 1 rfl ?_
              refine Rn.call rfl rfl rfl (k_step d n A w g z a m P hP h2 h6 hm) ?_
              refine Rn.steps 1 rfl ?_
              refine Rn.call rfl rfl rfl (c_areBack d n (mZ A z (sPl (2 * z 0) a m)) _ g m upd_eq hm) ?_
              refine Rn.br 1 rfl (fun hc42 => ?_) (fun hc42 => ?_)
              · refine Rn.steps 2 rfl ?_
                exact Rn.l2 rfl rfl (by rw [← nI_1 (c + 1)]; rfl) g2
              · exact absurd (bi_ne0 hc42) (by rw [show mAb (mZ A z (sPl (2 * z 0) a m) 0) (mZ A z (sPl (2 * z 0) a m) 5) m 10 = false from (hst.ab z 10).trans hb]; decide)
            · exact (hc28 hz).elim
      · refine ⟨a, ?_⟩
        rw [show peN z m P q (100 - c) c = none by rw [hs, peN, if_neg hz]]
        refine Rn.br 3 rfl (fun hc19 => ?_) (fun hc19 => ?_)
        · exact (nI_nlt (a := 100) (b := c + 1) (by omega) (by omega) hc19).elim
        · refine Rn.steps 1 rfl ?_
          refine Rn.call rfl rfl rfl (k_meetAt d n A w g z a _ m P hP h2 h6 hm ha) ?_
          refine Rn.br 2 rfl (fun hc28 => ?_) (fun hc28 => ?_)
          · exact (hz hc28).elim
          · refine Rn.steps 1 rfl ?_
            exact Rn.retE rfl rfl rfl rfl rfl
  by_cases h0 : tpm z 10 = 0
  · refine ⟨tpl z a 10, nI (tpm z 10), ?_⟩
    unfold peR
    rw [if_pos h0]
    refine Rn.steps 1 rfl ?_
    refine Rn.call rfl rfl rfl (k_take (d) n A w g z a x) ?_
    refine Rn.br 3 rfl (fun hc8 => ?_) (fun hc8 => ?_)
    · refine Rn.steps 1 rfl ?_
      exact Rn.retE rfl rfl rfl rfl rfl
    · exact (hc8 (by show nI (tpm z 10) = 0; rw [h0]; rfl)).elim
  · obtain ⟨a', g2⟩ := key (plz z) (tpm z 10) (by omega) (tpl z a 10) (Ag.tp z a _ 10)
    refine ⟨a', nI (tpm z 10), ?_⟩
    unfold peR
    rw [if_neg h0]
    refine Rn.steps 1 rfl ?_
    refine Rn.call rfl rfl rfl (k_take d n A w g z a x) ?_
    refine Rn.br 3 rfl (fun hc8 => ?_) (fun hc8 => ?_)
    · exact (h0 ((nI_eq (a := tpm z 10) (b := 0) (by omega) (by omega)).mp hc8)).elim
    · refine Rn.steps 2 rfl ?_
      exact Rn.l2 rfl rfl rfl g2
theorem k_lasts (z a : Nat → Int32) (x : Int32) (P : Nat) (hP : z 0 = nI P) (h2 : 2 ≤ P) (h6 : P ≤ 6) (L : Nat) (hL : mLeast z 10 = nI L) (hL9 : L ≤ 999) : ∃ a' x', Rn (d + 3) 142 0 [(0, .ref 139)] [] (mOn (mZ A z a) (upd w 2 x) g) n (some (.int (nI (laR z P L)))) (mOn (mZ A z a') (upd w 2 x') g) n := by
  have hm10 := tpm_le z 10
  have key : ∀ (q : Nat → Int32) (m L : Nat), m ≤ 11 → L ≤ 999 → ∀ a, Ag m a (pls (2 * z 0) m q 0) → ∃ a', Rn (d + 3) 142 30 [(0, .ref 139), (1, .int (nI L)), (2, .int (nI 0))] [] (mOn (mZ A z a) (upd w 2 (nI m)) g) n (some (.int (nI (laN z m P q (L - 0) 0)))) (mOn (mZ A z a') (upd w 2 (nI m)) g) n := by
    intro q m L hm hL9
    refine xloop (fun c => ∀ a, Ag m a (pls (2 * z 0) m q c) → ∃ a', Rn (d + 3) 142 30 [(0, .ref 139), (1, .int (nI L)), (2, .int (nI c))] [] (mOn (mZ A z a) (upd w 2 (nI m)) g) n (some (.int (nI (laN z m P q (L - c) c)))) (mOn (mZ A z a') (upd w 2 (nI m)) g) n) L ?_ (fun c hc ih => ?_)
    · intro a ha
      refine ⟨a, ?_⟩
      rw [show laN z m P q (L - L) L = L by rw [Nat.sub_self]; rfl]
      refine Rn.br 3 rfl (fun hc32 => ?_) (fun hc32 => ?_)
      · refine Rn.steps 1 rfl ?_
        exact Rn.retE rfl rfl rfl rfl rfl
      · exact (hc32 (nI_le (Nat.le_refl _) (by omega))).elim
    · intro a ha
      have hs : L - c = (L - (c + 1)) + 1 := by omega
      by_cases hz : mtz z (pls (2 * z 0) m q c) m P = -6
      · obtain ⟨a', g2⟩ := ih (sPl (2 * z 0) a m) (ha.st _)
        refine ⟨a', ?_⟩
        rw [show laN z m P q (L - c) c = laN z m P q (L - (c + 1)) (c + 1) by rw [hs, laN, if_pos hz]]
        refine Rn.br 3 rfl (fun hc32 => ?_) (fun hc32 => ?_)
        · exact (nI_ge hc (by omega) hc32).elim
        · refine Rn.steps 1 rfl ?_
          refine Rn.call rfl rfl rfl (k_meetAt d n A w g z a _ m P hP h2 h6 hm ha) ?_
          refine Rn.br 2 rfl (fun hc41 => ?_) (fun hc41 => ?_)
          · refine Rn.steps 1 rfl ?_
            refine Rn.call rfl rfl rfl (k_step d n A w g z a m P hP h2 h6 hm) ?_
            refine Rn.steps 2 rfl ?_
            exact Rn.l3 rfl rfl rfl (by rw [← nI_1]; rfl) g2
          · exact (hc41 hz).elim
      · refine ⟨a, ?_⟩
        rw [show laN z m P q (L - c) c = c by rw [hs, laN, if_neg hz]]
        refine Rn.br 3 rfl (fun hc32 => ?_) (fun hc32 => ?_)
        · exact (nI_ge hc (by omega) hc32).elim
        · refine Rn.steps 1 rfl ?_
          refine Rn.call rfl rfl rfl (k_meetAt d n A w g z a _ m P hP h2 h6 hm ha) ?_
          refine Rn.br 2 rfl (fun hc41 => ?_) (fun hc41 => ?_)
          · exact (hz hc41).elim
          · refine Rn.steps 1 rfl ?_
            exact Rn.retE rfl rfl rfl rfl rfl
  by_cases h0 : tpm z 10 = 0
  · obtain ⟨a', g2⟩ := key (plz z) (tpm z 10) 0 (by omega) (by omega) (tpl z a 10) (Ag.tp z a _ 10)
    refine ⟨a', nI (tpm z 10), ?_⟩
    unfold laR
    rw [if_pos h0]
    refine Rn.steps 1 rfl ?_
    refine Rn.call rfl rfl rfl (k_take d n A w g z a x) ?_
    refine Rn.br 3 rfl (fun hc8 => ?_) (fun hc8 => ?_)
    · refine Rn.steps 5 rfl ?_
      exact Rn.l3 rfl rfl rfl rfl g2
    · exact (hc8 (by show nI (tpm z 10) = 0; rw [h0]; rfl)).elim
  · by_cases hsm : 0 < mSum z 2 10
    · obtain ⟨a', g2⟩ := key (plz z) (tpm z 10) 0 (by omega) (by omega) (tpl z a 10) (Ag.tp z a _ 10)
      refine ⟨a', nI (tpm z 10), ?_⟩
      unfold laR
      rw [if_neg h0, if_pos hsm]
      refine Rn.steps 1 rfl ?_
      refine Rn.call rfl rfl rfl (k_take d n A w g z a x) ?_
      refine Rn.br 3 rfl (fun hc8 => ?_) (fun hc8 => ?_)
      · exact (h0 ((nI_eq (a := tpm z 10) (b := 0) (by omega) (by omega)).mp hc8)).elim
      · refine Rn.steps 2 rfl ?_
        refine Rn.call rfl rfl rfl (c_sum d n (mZ A z (tpl z a 10)) _ g 2 (by omega)) ?_
        refine Rn.br 1 rfl (fun hc16 => ?_) (fun hc16 => ?_)
        · exact absurd hsm (Int32.not_lt.mpr hc16)
        · refine Rn.steps 5 rfl ?_
          exact Rn.l3 rfl rfl rfl rfl g2
    · obtain ⟨a', g2⟩ := key (plz z) (tpm z 10) L (by omega) hL9 (tpl z a 10) (Ag.tp z a _ 10)
      refine ⟨a', nI (tpm z 10), ?_⟩
      unfold laR
      rw [if_neg h0, if_neg hsm]
      refine Rn.steps 1 rfl ?_
      refine Rn.call rfl rfl rfl (k_take d n A w g z a x) ?_
      refine Rn.br 3 rfl (fun hc8 => ?_) (fun hc8 => ?_)
      · exact (h0 ((nI_eq (a := tpm z 10) (b := 0) (by omega) (by omega)).mp hc8)).elim
      · refine Rn.steps 2 rfl ?_
        refine Rn.call rfl rfl rfl (c_sum d n (mZ A z (tpl z a 10)) _ g 2 (by omega)) ?_
        refine Rn.br 1 rfl (fun hc16 => ?_) (fun hc16 => ?_)
        · refine Rn.steps 1 rfl ?_
          refine Rn.call rfl rfl rfl (c_leastElls d n (mZ A z (tpl z a 10)) _ g) ?_
          refine Rn.steps 3 rfl ?_
          exact Rn.l3 rfl rfl (by rw [← hL]; rfl) rfl g2
        · exact absurd (Int32.not_le.mp hc16) hsm
theorem c_meeting_bad (y : Int32) (hy : decide (0 ≤ y ∧ y ≤ 3) = false) : Rn (d + 1) 135 0 [(0, .ref 139), (1, .int y)] [] (mOn A w g) n (some (.int (-2))) (mOn A w g) n := by
  refine Rn.steps 3 rfl ?_
  refine Rn.call rfl rfl rfl (c_in d n _ _ _ _) ?_
  refine Rn.br 1 rfl (fun hc6 => ?_) (fun hc6 => ?_)
  · refine Rn.steps 1 rfl ?_
    exact Rn.retE rfl rfl rfl rfl rfl
  · exact absurd (bi_ne0 hc6) (by rw [hy]; decide)
theorem k_meeting (z a : Nat → Int32) (x : Int32) (P : Nat) (hP : z 0 = nI P) (h2 : 2 ≤ P) (h6 : P ≤ 6) (y : Int32) (hy : decide (0 ≤ y ∧ y ≤ 3) = true) : ∃ a' x', Rn (d + 4) 135 0 [(0, .ref 139), (1, .int y)] [] (mOn (mZ A z a) (upd w 2 x) g) n (some (.int (meR z P y))) (mOn (mZ A z a') (upd w 2 x') g) n := by
  have hm10 := tpm_le z 10
  obtain ⟨a', g1, g2⟩ := k_meetsIn d n A w g z (plz z) (tpm z 10) P hP h2 h6 (by omega) (tpl z a 10) (Ag.tp z a _ 10)
  refine ⟨a', nI (tpm z 10), ?_⟩
  refine Rn.steps 3 rfl ?_
  refine Rn.call rfl rfl rfl (c_in (d + 3) n _ _ _ _) ?_
  refine Rn.br 1 rfl (fun hc6 => ?_) (fun hc6 => ?_)
  · exact absurd (bi_eq0 hc6) (by rw [hy]; decide)
  · refine Rn.steps 1 rfl ?_
    refine Rn.call rfl rfl rfl (k_take (d + 1) n A w g z a x) ?_
    refine Rn.steps 1 rfl ?_
    refine Rn.call rfl rfl rfl g2 ?_
    refine Rn.br 4 rfl (fun hc24 => ?_) (fun hc24 => ?_)
    · refine Rn.steps 1 rfl ?_
      exact Rn.retE rfl rfl rfl (by unfold meR; first | (rw [if_pos hc24]; rw [hc24]; done) | (rw [if_neg hc24, if_pos hc28]; done) | (rw [hc24]; rw [if_pos rfl]; done)) rfl
    · refine Rn.br 2 rfl (fun hc28 => ?_) (fun hc28 => ?_)
      · refine Rn.steps 1 rfl ?_
        exact Rn.retE rfl rfl rfl (by unfold meR; first | (rw [if_pos hc24]; rw [hc24]; done) | (rw [if_neg hc24, if_pos hc28]; done) | (rw [hc24]; rw [if_pos rfl]; done)) rfl
      · refine Rn.steps 1 rfl ?_
        refine Rn.call rfl rfl rfl (k_meetAt (d + 1) n A w g z a' _ (tpm z 10) P hP h2 h6 (by omega) g1) ?_
        refine Rn.br 4 rfl (fun hc40 => ?_) (fun hc40 => ?_)
        · refine Rn.steps 2 rfl ?_
          exact Rn.retE rfl rfl rfl (by unfold meR; rw [if_neg hc24, if_neg hc28]; first | (rw [if_pos hc40]; done) | (rw [if_neg hc40]; show some (Value.int (mCt z a' _ 10).1) = _; rw [g1.ct z _ 10 (Nat.le_refl _)]; first | (rw [if_pos hc50]; done) | (rw [if_neg hc50]; done) | (rw [if_neg hc50]; rfl))) rfl
        · refine Rn.br 4 rfl (fun hc50 => ?_) (fun hc50 => ?_)
          · refine Rn.steps 4 rfl ?_
            refine Rn.call rfl rfl rfl (c_turnedTo (d + 1) n (mZ A z a') _ g _) ?_
            exact Rn.retE rfl rfl rfl (by unfold meR; rw [if_neg hc24, if_neg hc28]; first | (rw [if_pos hc40]; done) | (rw [if_neg hc40]; show some (Value.int (mCt z a' _ 10).1) = _; rw [g1.ct z _ 10 (Nat.le_refl _)]; first | (rw [if_pos hc50]; done) | (rw [if_neg hc50]; done) | (rw [if_neg hc50]; rfl))) rfl
          · refine Rn.steps 4 rfl ?_
            refine Rn.call rfl rfl rfl (c_otherSide (d + 2) n (mZ A z a') _ g (x2ne hP h2 h6) _) ?_
            refine Rn.call rfl rfl rfl (c_turnedTo (d + 1) n (mZ A z a') _ g _) ?_
            exact Rn.retE rfl rfl rfl (by unfold meR; rw [if_neg hc24, if_neg hc28]; first | (rw [if_pos hc40]; done) | (rw [if_neg hc40]; show some (Value.int (mCt z a' _ 10).1) = _; rw [g1.ct z _ 10 (Nat.le_refl _)]; first | (rw [if_pos hc50]; done) | (rw [if_neg hc50]; done) | (rw [if_neg hc50]; rfl))) rfl
theorem c_of_bad (x y : Int32) (hx : isC (A 0) x = false) : Rn (d + 2) 128 0 [(0, .ref 139), (1, .int x), (2, .int y)] [] (mOn A w g) n (some (.int (-1))) (mOn A w g) n := by
  refine Rn.steps 2 rfl ?_
  refine Rn.call rfl rfl rfl (c_isCx d n A w g x) ?_
  refine Rn.br 1 rfl (fun hc5 => ?_) (fun hc5 => ?_)
  · refine Rn.steps 1 rfl ?_
    exact Rn.retE rfl rfl rfl rfl rfl
  · exact absurd (bi_ne0 hc5) (by rw [hx]; decide)
theorem c_of_0 (c : Nat) (hc : c < 10) (hz : zt (A 0) c = true) : Rn (d + 2) 128 0 [(0, .ref 139), (1, .int (nI c)), (2, .int 0)] [] (mOn A w g) n (some (.int (A 0 (10 + 7 * c) / 4))) (mOn A w g) n := by
  refine Rn.steps 2 rfl ?_
  refine Rn.call rfl rfl rfl (c_isC d n A w g c hc) ?_
  refine Rn.br 1 rfl (fun hc5 => ?_) (fun hc5 => ?_)
  · exact absurd (bi_eq0 hc5) (by rw [hz]; decide)
  · refine Rn.steps 3 rfl ?_
    refine Rn.call rfl rfl rfl (c_of1 (d + 1) n A w g c 0 hc (by omega)) ?_
    refine Rn.steps 2 rfl ?_
    refine Rn.steps 1 rfl ?_
    refine Rn.steps 3 rfl ?_
    exact Rn.retE rfl rfl rfl rfl rfl
theorem c_of_1 (c : Nat) (hc : c < 10) (hz : zt (A 0) c = true) : Rn (d + 2) 128 0 [(0, .ref 139), (1, .int (nI c)), (2, .int 1)] [] (mOn A w g) n (some (.int (rm (A 0 (10 + 7 * c)) 4))) (mOn A w g) n := by
  refine Rn.steps 2 rfl ?_
  refine Rn.call rfl rfl rfl (c_isC d n A w g c hc) ?_
  refine Rn.br 1 rfl (fun hc5 => ?_) (fun hc5 => ?_)
  · exact absurd (bi_eq0 hc5) (by rw [hz]; decide)
  · refine Rn.steps 3 rfl ?_
    refine Rn.call rfl rfl rfl (c_of1 (d + 1) n A w g c 0 hc (by omega)) ?_
    refine Rn.steps 2 rfl ?_
    refine Rn.steps 1 rfl ?_
    refine Rn.steps 3 rfl ?_
    exact Rn.retE rfl rfl rfl rfl rfl
theorem c_of_2 (c : Nat) (hc : c < 10) (hz : zt (A 0) c = true) : Rn (d + 2) 128 0 [(0, .ref 139), (1, .int (nI c)), (2, .int 2)] [] (mOn A w g) n (some (.int (A 0 (10 + 7 * c + 1)))) (mOn A w g) n := by
  refine Rn.steps 2 rfl ?_
  refine Rn.call rfl rfl rfl (c_isC d n A w g c hc) ?_
  refine Rn.br 1 rfl (fun hc5 => ?_) (fun hc5 => ?_)
  · exact absurd (bi_eq0 hc5) (by rw [hz]; decide)
  · refine Rn.steps 3 rfl ?_
    refine Rn.call rfl rfl rfl (c_of1 (d + 1) n A w g c 0 hc (by omega)) ?_
    refine Rn.steps 2 rfl ?_
    refine Rn.steps 1 rfl ?_
    refine Rn.steps 5 rfl ?_
    refine Rn.call rfl rfl rfl (c_of1 (d + 1) n A w g c 1 hc (by omega)) ?_
    exact Rn.retE rfl rfl rfl rfl rfl
theorem c_of_3 (c : Nat) (hc : c < 10) (hz : zt (A 0) c = true) : Rn (d + 2) 128 0 [(0, .ref 139), (1, .int (nI c)), (2, .int 3)] [] (mOn A w g) n (some (.int (A 0 (10 + 7 * c + 2)))) (mOn A w g) n := by
  refine Rn.steps 2 rfl ?_
  refine Rn.call rfl rfl rfl (c_isC d n A w g c hc) ?_
  refine Rn.br 1 rfl (fun hc5 => ?_) (fun hc5 => ?_)
  · exact absurd (bi_eq0 hc5) (by rw [hz]; decide)
  · refine Rn.steps 3 rfl ?_
    refine Rn.call rfl rfl rfl (c_of1 (d + 1) n A w g c 0 hc (by omega)) ?_
    refine Rn.steps 2 rfl ?_
    refine Rn.steps 1 rfl ?_
    refine Rn.steps 5 rfl ?_
    refine Rn.call rfl rfl rfl (c_of1 (d + 1) n A w g c 2 hc (by omega)) ?_
    exact Rn.retE rfl rfl rfl rfl rfl
theorem c_of_4 (c : Nat) (hc : c < 10) (hz : zt (A 0) c = true) : Rn (d + 2) 128 0 [(0, .ref 139), (1, .int (nI c)), (2, .int 4)] [] (mOn A w g) n (some (.int (A 0 (10 + 7 * c + 3)))) (mOn A w g) n := by
  refine Rn.steps 2 rfl ?_
  refine Rn.call rfl rfl rfl (c_isC d n A w g c hc) ?_
  refine Rn.br 1 rfl (fun hc5 => ?_) (fun hc5 => ?_)
  · exact absurd (bi_eq0 hc5) (by rw [hz]; decide)
  · refine Rn.steps 3 rfl ?_
    refine Rn.call rfl rfl rfl (c_of1 (d + 1) n A w g c 0 hc (by omega)) ?_
    refine Rn.steps 2 rfl ?_
    refine Rn.steps 1 rfl ?_
    refine Rn.steps 5 rfl ?_
    refine Rn.call rfl rfl rfl (c_of1 (d + 1) n A w g c 3 hc (by omega)) ?_
    exact Rn.retE rfl rfl rfl rfl rfl
theorem c_of_5 (c : Nat) (hc : c < 10) (hz : zt (A 0) c = true) : Rn (d + 2) 128 0 [(0, .ref 139), (1, .int (nI c)), (2, .int 5)] [] (mOn A w g) n (some (.int (A 0 (10 + 7 * c + 4)))) (mOn A w g) n := by
  refine Rn.steps 2 rfl ?_
  refine Rn.call rfl rfl rfl (c_isC d n A w g c hc) ?_
  refine Rn.br 1 rfl (fun hc5 => ?_) (fun hc5 => ?_)
  · exact absurd (bi_eq0 hc5) (by rw [hz]; decide)
  · refine Rn.steps 3 rfl ?_
    refine Rn.call rfl rfl rfl (c_of1 (d + 1) n A w g c 0 hc (by omega)) ?_
    refine Rn.steps 2 rfl ?_
    refine Rn.steps 1 rfl ?_
    refine Rn.steps 5 rfl ?_
    refine Rn.call rfl rfl rfl (c_of1 (d + 1) n A w g c 4 hc (by omega)) ?_
    exact Rn.retE rfl rfl rfl rfl rfl
theorem c_of_6 (c : Nat) (hc : c < 10) (hz : zt (A 0) c = true) : Rn (d + 2) 128 0 [(0, .ref 139), (1, .int (nI c)), (2, .int 6)] [] (mOn A w g) n (some (.int (A 0 (10 + 7 * c + 5)))) (mOn A w g) n := by
  refine Rn.steps 2 rfl ?_
  refine Rn.call rfl rfl rfl (c_isC d n A w g c hc) ?_
  refine Rn.br 1 rfl (fun hc5 => ?_) (fun hc5 => ?_)
  · exact absurd (bi_eq0 hc5) (by rw [hz]; decide)
  · refine Rn.steps 3 rfl ?_
    refine Rn.call rfl rfl rfl (c_of1 (d + 1) n A w g c 0 hc (by omega)) ?_
    refine Rn.steps 2 rfl ?_
    refine Rn.steps 1 rfl ?_
    refine Rn.steps 5 rfl ?_
    refine Rn.call rfl rfl rfl (c_of1 (d + 1) n A w g c 5 hc (by omega)) ?_
    exact Rn.retE rfl rfl rfl rfl rfl
theorem c_of_7 (c : Nat) (hc : c < 10) (hz : zt (A 0) c = true) : Rn (d + 2) 128 0 [(0, .ref 139), (1, .int (nI c)), (2, .int 7)] [] (mOn A w g) n (some (.int (if rm (A 0 (10 + 7 * c)) 4 = 2 ∨ rm (A 0 (10 + 7 * c)) 4 = (if rm (A 0 (10 + 7 * c) / 4) 2 = 0 then 3 else 1) then 1 else 0))) (mOn A w g) n := by
  refine Rn.steps 2 rfl ?_
  refine Rn.call rfl rfl rfl (c_isC d n A w g c hc) ?_
  refine Rn.br 1 rfl (fun hc5 => ?_) (fun hc5 => ?_)
  · exact absurd (bi_eq0 hc5) (by rw [hz]; decide)
  · refine Rn.steps 3 rfl ?_
    refine Rn.call rfl rfl rfl (c_of1 (d + 1) n A w g c 0 hc (by omega)) ?_
    refine Rn.steps 2 rfl ?_
    refine Rn.steps 1 rfl ?_
    refine Rn.br 5 rfl (fun hc85 => ?_) (fun hc85 => ?_)
    · have k1 : rm (A 0 (10 + 7 * c)) 4 = 2 := hc85
      refine Rn.steps 2 rfl ?_
      exact Rn.retE rfl rfl rfl (by first | (rw [if_pos (Or.inl k1)]; done) | (rw [if_pos (Or.inr k3)]; done) | (rw [if_neg (fun q => q.elim k1 k3)]; done)) rfl
    · have k1 : ¬ rm (A 0 (10 + 7 * c)) 4 = 2 := hc85
      refine Rn.br 9 rfl (fun hc96 => ?_) (fun hc96 => ?_)
      · have k4 : (if rm (A 0 (10 + 7 * c) / 4) 2 = 0 then (3 : Int32) else 1) = 3 := if_pos hc96
        refine Rn.br 3 rfl (fun hc104 => ?_) (fun hc104 => ?_)
        · have k3 : rm (A 0 (10 + 7 * c)) 4 = (if rm (A 0 (10 + 7 * c) / 4) 2 = 0 then (3 : Int32) else 1) := by rw [k4]; exact hc104
          refine Rn.steps 2 rfl ?_
          exact Rn.retE rfl rfl rfl (by first | (rw [if_pos (Or.inl k1)]; done) | (rw [if_pos (Or.inr k3)]; done) | (rw [if_neg (fun q => q.elim k1 k3)]; done)) rfl
        · have k3 : ¬ rm (A 0 (10 + 7 * c)) 4 = (if rm (A 0 (10 + 7 * c) / 4) 2 = 0 then (3 : Int32) else 1) := by rw [k4]; exact hc104
          refine Rn.steps 1 rfl ?_
          exact Rn.retE rfl rfl rfl (by first | (rw [if_pos (Or.inl k1)]; done) | (rw [if_pos (Or.inr k3)]; done) | (rw [if_neg (fun q => q.elim k1 k3)]; done)) rfl
      · have k4 : (if rm (A 0 (10 + 7 * c) / 4) 2 = 0 then (3 : Int32) else 1) = 1 := if_neg hc96
        refine Rn.br 2 rfl (fun hc104 => ?_) (fun hc104 => ?_)
        · have k3 : rm (A 0 (10 + 7 * c)) 4 = (if rm (A 0 (10 + 7 * c) / 4) 2 = 0 then (3 : Int32) else 1) := by rw [k4]; exact hc104
          refine Rn.steps 2 rfl ?_
          exact Rn.retE rfl rfl rfl (by first | (rw [if_pos (Or.inl k1)]; done) | (rw [if_pos (Or.inr k3)]; done) | (rw [if_neg (fun q => q.elim k1 k3)]; done)) rfl
        · have k3 : ¬ rm (A 0 (10 + 7 * c)) 4 = (if rm (A 0 (10 + 7 * c) / 4) 2 = 0 then (3 : Int32) else 1) := by rw [k4]; exact hc104
          refine Rn.steps 1 rfl ?_
          exact Rn.retE rfl rfl rfl (by first | (rw [if_pos (Or.inl k1)]; done) | (rw [if_pos (Or.inr k3)]; done) | (rw [if_neg (fun q => q.elim k1 k3)]; done)) rfl
theorem c_of_out (c : Nat) (hc : c < 10) (hz : zt (A 0) c = true) (y : Int32) (hy : y.toInt < 0 ∨ 7 < y.toInt) : Rn (d + 2) 128 0 [(0, .ref 139), (1, .int (nI c)), (2, .int y)] [] (mOn A w g) n (some (.int (-2))) (mOn A w g) n := by
  refine Rn.steps 2 rfl ?_
  refine Rn.call rfl rfl rfl (c_isC d n A w g c hc) ?_
  refine Rn.br 1 rfl (fun hc5 => ?_) (fun hc5 => ?_)
  · exact absurd (bi_eq0 hc5) (by rw [hz]; decide)
  · refine Rn.steps 3 rfl ?_
    refine Rn.call rfl rfl rfl (c_of1 (d + 1) n A w g c 0 hc (by omega)) ?_
    refine Rn.steps 2 rfl ?_
    refine Rn.swOut rfl rfl hy 113 rfl ?_
    refine Rn.steps 1 rfl ?_
    exact Rn.retE rfl rfl rfl rfl rfl
theorem c_count_0 : Rn (d + 3) 132 0 [(0, .ref 139), (1, .int 0)] [] (mOn A w g) n (some (.int (2 * A 0 0))) (mOn A w g) n := by
  refine Rn.steps 2 rfl ?_
  refine Rn.steps 1 rfl ?_
  refine Rn.call rfl rfl rfl (c_horns (d + 2) n A w g) ?_
  exact Rn.retE rfl rfl rfl rfl rfl
theorem c_count_1 : Rn (d + 3) 132 0 [(0, .ref 139), (1, .int 1)] [] (mOn A w g) n (some (.int (mSet (A 0) 10))) (mOn A w g) n := by
  refine Rn.steps 2 rfl ?_
  refine Rn.steps 1 rfl ?_
  refine Rn.call rfl rfl rfl (c_set0 d n A w g) ?_
  exact Rn.retE rfl rfl rfl rfl rfl
theorem c_count_2 : Rn (d + 3) 132 0 [(0, .ref 139), (1, .int 2)] [] (mOn A w g) n (some (.int (A 0 3))) (mOn A w g) n := by
  refine Rn.steps 2 rfl ?_
  refine Rn.steps 3 rfl ?_
  refine Rn.ialdN (m := 3) rfl rfl rfl (rfl) (by omega) (Nat.le_of_ble_eq_true rfl) ?_
  exact Rn.retE rfl rfl rfl rfl rfl
theorem c_count_3 : Rn (d + 3) 132 0 [(0, .ref 139), (1, .int 3)] [] (mOn A w g) n (some (.int (A 0 4))) (mOn A w g) n := by
  refine Rn.steps 2 rfl ?_
  refine Rn.steps 3 rfl ?_
  refine Rn.ialdN (m := 4) rfl rfl rfl (rfl) (by omega) (Nat.le_of_ble_eq_true rfl) ?_
  exact Rn.retE rfl rfl rfl rfl rfl
theorem c_count_4 : Rn (d + 3) 132 0 [(0, .ref 139), (1, .int 4)] [] (mOn A w g) n (some (.int (A 0 5))) (mOn A w g) n := by
  refine Rn.steps 2 rfl ?_
  refine Rn.steps 3 rfl ?_
  refine Rn.ialdN (m := 5) rfl rfl rfl (rfl) (by omega) (Nat.le_of_ble_eq_true rfl) ?_
  exact Rn.retE rfl rfl rfl rfl rfl
theorem c_count_5 : Rn (d + 3) 132 0 [(0, .ref 139), (1, .int 5)] [] (mOn A w g) n (some (.int (A 0 6))) (mOn A w g) n := by
  refine Rn.steps 2 rfl ?_
  refine Rn.steps 3 rfl ?_
  refine Rn.ialdN (m := 6) rfl rfl rfl (rfl) (by omega) (Nat.le_of_ble_eq_true rfl) ?_
  exact Rn.retE rfl rfl rfl rfl rfl
theorem c_count_6 : Rn (d + 3) 132 0 [(0, .ref 139), (1, .int 6)] [] (mOn A w g) n (some (.int (A 0 7))) (mOn A w g) n := by
  refine Rn.steps 2 rfl ?_
  refine Rn.steps 3 rfl ?_
  refine Rn.ialdN (m := 7) rfl rfl rfl (rfl) (by omega) (Nat.le_of_ble_eq_true rfl) ?_
  exact Rn.retE rfl rfl rfl rfl rfl
theorem c_count_7 : Rn (d + 3) 132 0 [(0, .ref 139), (1, .int 7)] [] (mOn A w g) n (some (.int (mSum (A 0) 1 10))) (mOn A w g) n := by
  refine Rn.steps 2 rfl ?_
  refine Rn.steps 2 rfl ?_
  refine Rn.call rfl rfl rfl (c_sum d n A w g 1 (by omega)) ?_
  exact Rn.retE rfl rfl rfl rfl rfl
theorem c_count_8 : Rn (d + 3) 132 0 [(0, .ref 139), (1, .int 8)] [] (mOn A w g) n (some (.int (A 0 8))) (mOn A w g) n := by
  refine Rn.steps 2 rfl ?_
  refine Rn.steps 3 rfl ?_
  refine Rn.ialdN (m := 8) rfl rfl rfl (rfl) (by omega) (Nat.le_of_ble_eq_true rfl) ?_
  exact Rn.retE rfl rfl rfl rfl rfl
theorem c_count_9 : Rn (d + 3) 132 0 [(0, .ref 139), (1, .int 9)] [] (mOn A w g) n (some (.int (A 0 9))) (mOn A w g) n := by
  refine Rn.steps 2 rfl ?_
  refine Rn.steps 3 rfl ?_
  refine Rn.ialdN (m := 9) rfl rfl rfl (rfl) (by omega) (Nat.le_of_ble_eq_true rfl) ?_
  exact Rn.retE rfl rfl rfl rfl rfl
theorem c_count_10 : Rn (d + 3) 132 0 [(0, .ref 139), (1, .int 10)] [] (mOn A w g) n (some (.int (A 0 0))) (mOn A w g) n := by
  refine Rn.steps 2 rfl ?_
  refine Rn.steps 5 rfl ?_
  refine Rn.ialdN (m := 0) rfl rfl rfl (rfl) (by omega) (Nat.le_of_ble_eq_true rfl) ?_
  exact Rn.retE rfl rfl rfl rfl rfl
theorem c_count_11 : Rn (d + 3) 132 0 [(0, .ref 139), (1, .int 11)] [] (mOn A w g) n (some (.int (A 0 1))) (mOn A w g) n := by
  refine Rn.steps 2 rfl ?_
  refine Rn.steps 5 rfl ?_
  refine Rn.ialdN (m := 1) rfl rfl rfl (rfl) (by omega) (Nat.le_of_ble_eq_true rfl) ?_
  exact Rn.retE rfl rfl rfl rfl rfl
theorem c_count_12 : Rn (d + 3) 132 0 [(0, .ref 139), (1, .int 12)] [] (mOn A w g) n (some (.int (A 0 2))) (mOn A w g) n := by
  refine Rn.steps 2 rfl ?_
  refine Rn.steps 5 rfl ?_
  refine Rn.ialdN (m := 2) rfl rfl rfl (rfl) (by omega) (Nat.le_of_ble_eq_true rfl) ?_
  exact Rn.retE rfl rfl rfl rfl rfl
theorem c_count_13 : Rn (d + 3) 132 0 [(0, .ref 139), (1, .int 13)] [] (mOn A w g) n (some (.int (w 1))) (mOn A w g) n := by
  refine Rn.steps 2 rfl ?_
  refine Rn.steps 2 rfl ?_
  exact Rn.retE rfl rfl rfl rfl rfl
theorem c_count_14 : Rn (d + 3) 132 0 [(0, .ref 139), (1, .int 14)] [] (mOn A w g) n (some (.int (w 0))) (mOn A w g) n := by
  refine Rn.steps 2 rfl ?_
  refine Rn.steps 2 rfl ?_
  exact Rn.retE rfl rfl rfl rfl rfl
theorem c_count_out (y : Int32) (hy : y.toInt < 0 ∨ 14 < y.toInt) : Rn (d + 3) 132 0 [(0, .ref 139), (1, .int y)] [] (mOn A w g) n (some (.int (-2))) (mOn A w g) n := by
  refine Rn.steps 1 rfl ?_
  refine Rn.swOut rfl rfl hy 165 rfl ?_
  refine Rn.steps 1 rfl ?_
  exact Rn.retE rfl rfl rfl rfl rfl
end MODEL6
end
section
/-! the reference: texts -/
def wT (w : Nat → Int32) (sp tm : Nat) : Nat → Int32 := upd (upd w 3 (nI sp)) 4 (nI tm)
theorem wT_3 {w : Nat → Int32} {sp tm s2 : Nat} : upd (wT w sp tm) 3 (nI s2) = wT w s2 tm := by
  funext j
  unfold wT upd
  by_cases h3 : j = 3
  · subst h3; rfl
  · rw [if_neg h3]
    by_cases h4 : j = 4
    · rw [if_pos h4, if_pos h4]
    · rw [if_neg h4, if_neg h4, if_neg h3, if_neg h3]
theorem wT_4 {w : Nat → Int32} {sp tm t2 : Nat} : upd (wT w sp tm) 4 (nI t2) = wT w sp t2 := by
  unfold wT
  rw [upd_upd]
def seF (p : Nat → Int32) (ty sp : Nat) (lo hi : Int32) : Bool := decide (sp < ty) && decide (lo ≤ p sp ∧ p sp ≤ hi)
def taS (p : Nat → Int32) (ty sp : Nat) (c : Int32) : Nat := cond (seF p ty sp c c) (sp + 1) sp
/-- a number: its value, or -6, and where the reading stands then -/
def nuF (p : Nat → Int32) (ty sp : Nat) (dg : Int32) : Int32 × Nat := cond (seF p ty sp 48 57) (cond (decide (0 < p sp - 48) && (decide (1 < dg) && seF p ty (sp + 1) 48 57)) (10 * (p sp - 48) + p (sp + 1) - 48, sp + 2) (p sp - 48, sp + 1)) (-6, sp)
theorem nuF_le (p : Nat → Int32) (ty sp : Nat) (dg : Int32) : sp ≤ (nuF p ty sp dg).2 ∧ (nuF p ty sp dg).2 ≤ sp + 2 := by
  unfold nuF
  cases seF p ty sp 48 57 with
  | false => exact ⟨Nat.le_refl _, by simp only [cond]; omega⟩
  | true =>
    simp only [cond]
    split <;> simp only <;> omega
section MODEL7
variable (d n : Nat) (A : Nat → Nat → Int32) (w : Nat → Int32) (g h : xHp) (ty : Nat)
theorem c_sees (hty : w 1 = nI ty) (ht8 : ty ≤ 80) (sp tm : Nat) (hsp : sp ≤ 100) (lo hi : Int32) : Rn (d + 1) 145 0 [(0, .ref 139), (1, .int lo), (2, .int hi)] [] (mOn A (wT w (sp) (tm)) g) n (some (.int (bi (seF (A 4) ty sp lo hi)))) (mOn A (wT w (sp) (tm)) g) n := by
  refine Rn.br 5 rfl (fun hc8 => ?_) (fun hc8 => ?_)
  · have hb : ¬ sp < ty := fun q => nI_ge (a := sp) (b := ty) q (by omega) (by rw [← hty]; exact hc8)
    exact Rn.steps 1 rfl (Rn.retE rfl rfl rfl (by unfold seF; rw [decide_eq_false hb]; rfl) rfl)
  · have hb : sp < ty := by
      rcases Nat.lt_or_ge sp ty with q | q
      · exact q
      · exact (hc8 (by show w 1 ≤ nI sp; rw [hty]; exact nI_le q (by omega))).elim
    refine Rn.steps 4 rfl ?_
    refine Rn.ialdN (m := sp) rfl rfl rfl (rfl) (by omega) (Nat.le_of_ble_eq_true rfl) ?_
    refine Rn.steps 2 rfl ?_
    refine Rn.call rfl rfl rfl (c_in d n _ _ _ _) ?_
    refine Rn.br 1 rfl (fun hc25 => ?_) (fun hc25 => ?_)
    · have hz : seF (A 4) ty sp lo hi = false := by unfold seF; rw [decide_eq_true hb, bi_eq0 hc25]; rfl
      refine Rn.steps 1 rfl ?_
      exact Rn.retE rfl rfl rfl (by rw [hz]; rfl) rfl
    · have hz : seF (A 4) ty sp lo hi = true := by unfold seF; rw [decide_eq_true hb, bi_ne0 hc25]; rfl
      refine Rn.steps 2 rfl ?_
      exact Rn.retE rfl rfl rfl (by rw [hz]; rfl) rfl
theorem c_takes (hty : w 1 = nI ty) (ht8 : ty ≤ 80) (sp tm : Nat) (hsp : sp ≤ 100) (c : Int32) : Rn (d + 2) 146 0 [(0, .ref 139), (1, .int c)] [] (mOn A (wT w (sp) (tm)) g) n (some (.int (bi (seF (A 4) ty sp c c)))) (mOn A (wT w (taS (A 4) ty sp c) (tm)) g) n := by
  refine Rn.steps 3 rfl ?_
  refine Rn.call rfl rfl rfl (c_sees d n A w g ty hty ht8 sp tm hsp c c) ?_
  refine Rn.br 6 rfl (fun hc13 => ?_) (fun hc13 => ?_)
  · have hz := bi_eq0 hc13
    refine Rn.steps 2 rfl ?_
    refine Rn.stk (st2 := [.int (nI (taS (A 4) ty sp c)), .ref 139]) (by unfold taS; rw [hz]; first | (show [Value.int (nI sp + 0), Value.ref 139] = _; rw [Int32.add_zero]; rfl) | (show [Value.int (nI sp + 1), Value.ref 139] = _; rw [nI_1]; rfl)) ?_
    refine Rn.steps 1 rfl ?_
    refine Rn.heap mOn_w3 ?_
    rw [wT_3]
    refine Rn.steps 1 rfl ?_
    exact Rn.retZ rfl rfl rfl rfl rfl
  · have hz := bi_ne0 hc13
    refine Rn.steps 3 rfl ?_
    refine Rn.stk (st2 := [.int (nI (taS (A 4) ty sp c)), .ref 139]) (by unfold taS; rw [hz]; first | (show [Value.int (nI sp + 0), Value.ref 139] = _; rw [Int32.add_zero]; rfl) | (show [Value.int (nI sp + 1), Value.ref 139] = _; rw [nI_1]; rfl)) ?_
    refine Rn.steps 1 rfl ?_
    refine Rn.heap mOn_w3 ?_
    rw [wT_3]
    refine Rn.steps 1 rfl ?_
    exact Rn.retZ rfl rfl rfl rfl rfl
theorem c_number (hty : w 1 = nI ty) (ht8 : ty ≤ 80) (sp tm : Nat) (hsp : sp ≤ 98) (dg : Int32) : Rn (d + 2) 147 0 [(0, .ref 139), (1, .int dg)] [] (mOn A (wT w (sp) (tm)) g) n (some (.int ((nuF (A 4) ty sp dg).1))) (mOn A (wT w ((nuF (A 4) ty sp dg).2) (tm)) g) n := by
  refine Rn.steps 3 rfl ?_
  refine Rn.call rfl rfl rfl (c_sees d n A w g ty hty ht8 sp tm (by omega) 48 57) ?_
  refine Rn.br 1 rfl (fun hc8 => ?_) (fun hc8 => ?_)
  · have hz := bi_eq0 hc8
    rw [show nuF (A 4) ty sp dg = (-6, sp) by unfold nuF; rw [hz]; rfl]
    refine Rn.steps 1 rfl ?_
    exact Rn.retE rfl rfl rfl rfl rfl
  · have hz := bi_ne0 hc8
    have hlt : sp < ty := by
      have h1 := hz
      unfold seF at h1
      exact of_decide_eq_true ((Bool.and_eq_true _ _ ▸ h1 : _ ∧ _).1)
    refine Rn.steps 4 rfl ?_
    refine Rn.ialdN (m := sp) rfl rfl rfl (rfl) (by omega) (Nat.le_of_ble_eq_true rfl) ?_
    refine Rn.steps 8 rfl ?_
    refine Rn.stk (st2 := [.int (nI (sp + 1)), .ref 139]) (by rw [← nI_1]; rfl) ?_
    refine Rn.steps 1 rfl ?_
    refine Rn.heap mOn_w3 ?_
    rw [wT_3]
    refine Rn.br 2 rfl (fun hc38 => ?_) (fun hc38 => ?_)
    · have e1 : nuF (A 4) ty sp dg = (A 4 sp - 48, sp + 1) := by unfold nuF; rw [hz, decide_eq_false (Int32.not_lt.mpr hc38)]; rfl
      rw [e1]
      refine Rn.steps 1 rfl ?_
      exact Rn.retE rfl rfl rfl rfl rfl
    · have e2 : 0 < A 4 sp - 48 := Int32.not_le.mp hc38
      refine Rn.br 3 rfl (fun hc43 => ?_) (fun hc43 => ?_)
      · have e1 : nuF (A 4) ty sp dg = (A 4 sp - 48, sp + 1) := by unfold nuF; rw [hz, decide_eq_true e2, decide_eq_false (Int32.not_lt.mpr hc43)]; rfl
        rw [e1]
        refine Rn.steps 1 rfl ?_
        exact Rn.retE rfl rfl rfl rfl rfl
      · have e3 : 1 < dg := Int32.not_le.mp hc43
        refine Rn.steps 3 rfl ?_
        refine Rn.call rfl rfl rfl (c_sees d n A w g ty hty ht8 (sp + 1) tm (by omega) 48 57) ?_
        refine Rn.br 1 rfl (fun hc54 => ?_) (fun hc54 => ?_)
        · have e1 : nuF (A 4) ty sp dg = (A 4 sp - 48, sp + 1) := by unfold nuF; rw [hz, decide_eq_true e2, decide_eq_true e3, bi_eq0 hc54]; rfl
          rw [e1]
          refine Rn.steps 1 rfl ?_
          exact Rn.retE rfl rfl rfl rfl rfl
        · have e1 : nuF (A 4) ty sp dg = (10 * (A 4 sp - 48) + A 4 (sp + 1) - 48, sp + 2) := by unfold nuF; rw [hz, decide_eq_true e2, decide_eq_true e3, bi_ne0 hc54]; rfl
          rw [e1]
          have hlt2 : sp + 1 < ty := by
            have h1 := bi_ne0 hc54
            unfold seF at h1
            exact of_decide_eq_true ((Bool.and_eq_true _ _ ▸ h1 : _ ∧ _).1)
          refine Rn.steps 7 rfl ?_
          refine Rn.ialdN (m := sp + 1) rfl rfl rfl (rfl) (by omega) (Nat.le_of_ble_eq_true rfl) ?_
          refine Rn.steps 9 rfl ?_
          refine Rn.stk (st2 := [.int (nI (sp + 2)), .ref 139]) (by rw [show sp + 2 = sp + 1 + 1 from rfl, ← nI_1 (sp + 1)]; rfl) ?_
          refine Rn.steps 1 rfl ?_
          refine Rn.heap mOn_w3 ?_
          rw [wT_3]
          refine Rn.steps 1 rfl ?_
          exact Rn.retE rfl rfl rfl rfl rfl
def leF (p : Nat → Int32) (ty sp : Nat) : Int32 := if sp < ty then p sp else 0
def isLe (l : Int32) : Bool := decide (l = 99) || (decide (l = 120) || (decide (l = 114) || (decide (l = 98) || (decide (l = 107) || decide (l = 102)))))
def fiF (p : Nat → Int32) (ty sp : Nat) : Int32 × Nat := nuF p ty (sp + 1) (if leF p ty sp = 99 ∨ leF p ty sp = 114 then 2 else 1)
def seS (p : Nat → Int32) (ty sp : Nat) : Int32 × Nat := cond (decide (¬ (fiF p ty sp).1 = -6) && decide (leF p ty sp = 99)) (cond (seF p ty (fiF p ty sp).2 46 46) (nuF p ty ((fiF p ty sp).2 + 1) 1) (-6, (fiF p ty sp).2)) (0, (fiF p ty sp).2)
def roB (p : Nat → Int32) (ty sp : Nat) : Bool := isLe (leF p ty sp) && (decide (¬ (fiF p ty sp).1 = -6) && decide (¬ (seS p ty sp).1 = -6))
def roS (p : Nat → Int32) (ty sp : Nat) : Nat := cond (isLe (leF p ty sp)) (seS p ty sp).2 sp
def roM (p : Nat → Int32) (ty sp tm : Nat) : Nat := cond (isLe (leF p ty sp)) (tm + 1) tm
def roT (p : Nat → Int32) (ty sp tm : Nat) (t : Nat → Int32) : Nat → Int32 := cond (isLe (leF p ty sp)) (upd (upd (upd t (3 * tm) (leF p ty sp)) (3 * tm + 1) (fiF p ty sp).1) (3 * tm + 2) (seS p ty sp).1) t
theorem x3t (t : Nat) : (3 : Int32) * nI t = nI (3 * t) := by rw [show (3 : Int32) = nI 3 from rfl, pk_mul]
theorem c_readOrder (hty : w 1 = nI ty) (ht8 : ty ≤ 80) (sp tm : Nat) (hsp : sp ≤ 90) (htm : tm ≤ 39) : Rn (d + 3) 148 0 [(0, .ref 139)] [] (mOn A (wT w (sp) (tm)) g) n (some (.int (bi (roB (A 4) ty sp)))) (mOn (va_up A 6 (roT (A 4) ty sp tm (A 6))) (wT w (roS (A 4) ty sp) (roM (A 4) ty sp tm)) g) n := by
  have hfb : (fiF (A 4) ty sp).2 ≤ sp + 3 := by have := nuF_le (A 4) ty (sp + 1) (if leF (A 4) ty sp = 99 ∨ leF (A 4) ty sp = 114 then 2 else 1); unfold fiF; omega
  have kend : ∀ l, leF (A 4) ty sp = l → isLe l = true → ∀ s9, (seS (A 4) ty sp).2 = s9 → Rn (d + 3) 148 129 [(0, .ref 139), (1, .int l), (2, .int (fiF (A 4) ty sp).1), (3, .int (seS (A 4) ty sp).1)] [] (mOn A (wT w s9 tm) g) n (some (.int (bi (roB (A 4) ty sp)))) (mOn (va_up A 6 (roT (A 4) ty sp tm (A 6))) (wT w (roS (A 4) ty sp) (roM (A 4) ty sp tm)) g) n := by
    intro l hle hl s9 hs9
    subst hle; subst hs9
    have e1 : roT (A 4) ty sp tm (A 6) = upd (upd (upd (A 6) (3 * tm) (leF (A 4) ty sp)) (3 * tm + 1) (fiF (A 4) ty sp).1) (3 * tm + 2) (seS (A 4) ty sp).1 := by unfold roT; rw [hl]; rfl
    have e2 : roS (A 4) ty sp = (seS (A 4) ty sp).2 := by unfold roS; rw [hl]; rfl
    have e3 : roM (A 4) ty sp tm = tm + 1 := by unfold roM; rw [hl]; rfl
    rw [e1, e2, e3]
    refine Rn.steps 7 rfl ?_
    refine Rn.iastN (m := 3 * tm) rfl rfl rfl rfl (x3t tm) (by omega) (Nat.le_of_ble_eq_true rfl) ?_
    rw [mOn_6]
    refine Rn.steps 9 rfl ?_
    refine Rn.iastN (m := 3 * tm + 1) rfl rfl rfl rfl ((by rw [← nI_1, ← x3t]; rfl)) (by omega) (Nat.le_of_ble_eq_true rfl) ?_
    rw [mOn_6, bx_uu]
    refine Rn.steps 9 rfl ?_
    refine Rn.iastN (m := 3 * tm + 2) rfl rfl rfl rfl ((by rw [← nI_add, ← x3t]; rfl)) (by omega) (Nat.le_of_ble_eq_true rfl) ?_
    rw [mOn_6, bx_uu]
    refine Rn.steps 5 rfl ?_
    refine Rn.stk (st2 := [.int (nI (tm + 1)), .ref 139]) (by rw [← nI_1]; rfl) ?_
    refine Rn.steps 1 rfl ?_
    refine Rn.heap mOn_w4 ?_
    rw [wT_4]
    refine Rn.br 3 rfl (fun hc182 => ?_) (fun hc182 => ?_)
    · have hb : roB (A 4) ty sp = false := by unfold roB; rw [hl, decide_eq_false (fun q => q hc182)]; rfl
      refine Rn.steps 1 rfl ?_
      exact Rn.retE rfl rfl rfl (by rw [hb]; rfl) rfl
    · refine Rn.br 3 rfl (fun hc188 => ?_) (fun hc188 => ?_)
      · have hb : roB (A 4) ty sp = false := by unfold roB; rw [hl, decide_eq_true hc182, decide_eq_false (fun q => q hc188)]; rfl
        refine Rn.steps 1 rfl ?_
        exact Rn.retE rfl rfl rfl (by rw [hb]; rfl) rfl
      · have hb : roB (A 4) ty sp = true := by unfold roB; rw [hl, decide_eq_true hc182, decide_eq_true hc188]; rfl
        refine Rn.steps 2 rfl ?_
        exact Rn.retE rfl rfl rfl (by rw [hb]; rfl) rfl
  have kmid : ∀ l, leF (A 4) ty sp = l → isLe l = true → Rn (d + 3) 148 94 [(0, .ref 139), (1, .int l)] [.int (fiF (A 4) ty sp).1] (mOn A (wT w (fiF (A 4) ty sp).2 tm) g) n (some (.int (bi (roB (A 4) ty sp)))) (mOn (va_up A 6 (roT (A 4) ty sp tm (A 6))) (wT w (roS (A 4) ty sp) (roM (A 4) ty sp tm)) g) n := by
    intro l hle hl
    refine Rn.br 6 rfl (fun hc100 => ?_) (fun hc100 => ?_)
    · have hse : seS (A 4) ty sp = (0, (fiF (A 4) ty sp).2) := by unfold seS; rw [decide_eq_false (fun q => q hc100)]; rfl
      exact Rn.l4 (by decide) rfl rfl rfl (by rw [hse]; rfl) (kend l hle hl _ (by rw [hse]))
    · refine Rn.br 3 rfl (fun hc106 => ?_) (fun hc106 => ?_)
      · have h9 : (decide (¬ (fiF (A 4) ty sp).1 = -6) && decide (leF (A 4) ty sp = 99)) = true := by rw [decide_eq_true hc100, hle, decide_eq_true hc106]; rfl
        refine Rn.steps 2 rfl ?_
        refine Rn.call rfl rfl rfl (c_takes (d) n A w g ty hty ht8 (fiF (A 4) ty sp).2 tm (by omega) 46) ?_
        refine Rn.br 1 rfl (fun hc115 => ?_) (fun hc115 => ?_)
        · have hz := bi_eq0 hc115
          have hse : seS (A 4) ty sp = (-6, (fiF (A 4) ty sp).2) := by unfold seS; rw [h9, hz]; rfl
          rw [show taS (A 4) ty (fiF (A 4) ty sp).2 46 = (fiF (A 4) ty sp).2 by unfold taS; rw [hz]; rfl]
          refine Rn.steps 2 rfl ?_
          exact Rn.l4 (by decide) rfl rfl rfl (by rw [hse]; rfl) (kend l hle hl _ (by rw [hse]))
        · have hz := bi_ne0 hc115
          have hse : seS (A 4) ty sp = nuF (A 4) ty ((fiF (A 4) ty sp).2 + 1) 1 := by unfold seS; rw [h9, hz]; rfl
          rw [show taS (A 4) ty (fiF (A 4) ty sp).2 46 = (fiF (A 4) ty sp).2 + 1 by unfold taS; rw [hz]; rfl]
          refine Rn.steps 2 rfl ?_
          refine Rn.call rfl rfl rfl (c_number d n A w g ty hty ht8 ((fiF (A 4) ty sp).2 + 1) tm (by omega) 1) ?_
          refine Rn.steps 2 rfl ?_
          exact Rn.l4 (by decide) rfl rfl rfl (by rw [hse]; rfl) (kend l hle hl _ (by rw [hse]))
      · have hse : seS (A 4) ty sp = (0, (fiF (A 4) ty sp).2) := by unfold seS; rw [hle, decide_eq_false hc106, Bool.and_false]; rfl
        exact Rn.l4 (by decide) rfl rfl rfl (by rw [hse]; rfl) (kend l hle hl _ (by rw [hse]))
  have k63 : ∀ l, leF (A 4) ty sp = l → isLe l = true → Rn (d + 3) 148 63 [(0, .ref 139), (1, .int l)] [] (mOn A (wT w sp tm) g) n (some (.int (bi (roB (A 4) ty sp)))) (mOn (va_up A 6 (roT (A 4) ty sp tm (A 6))) (wT w (roS (A 4) ty sp) (roM (A 4) ty sp tm)) g) n := by
    intro l hle hl
    refine Rn.steps 5 rfl ?_
    refine Rn.stk (st2 := [.int (nI (sp + 1)), .ref 139]) (by rw [← nI_1]; rfl) ?_
    refine Rn.steps 1 rfl ?_
    refine Rn.heap mOn_w3 ?_
    rw [wT_3]
    refine Rn.br 4 rfl (fun hc77 => ?_) (fun hc77 => ?_)
    · have hdg : (if leF (A 4) ty sp = 99 ∨ leF (A 4) ty sp = 114 then (2 : Int32) else 1) = 2 := if_pos (Or.inl (by rw [hle]; exact hc77))
      refine Rn.steps 2 rfl ?_
      refine Rn.call rfl rfl rfl (c_number d n A w g ty hty ht8 (sp + 1) tm (by omega) _) ?_
      have k1 := kmid l hle hl
      unfold fiF at k1
      rw [hdg] at k1
      exact k1
    · refine Rn.br 3 rfl (fun hc83 => ?_) (fun hc83 => ?_)
      · have hdg : (if leF (A 4) ty sp = 99 ∨ leF (A 4) ty sp = 114 then (2 : Int32) else 1) = 2 := if_pos (Or.inr (by rw [hle]; exact hc83))
        refine Rn.steps 2 rfl ?_
        refine Rn.call rfl rfl rfl (c_number d n A w g ty hty ht8 (sp + 1) tm (by omega) _) ?_
        have k1 := kmid l hle hl
        unfold fiF at k1
        rw [hdg] at k1
        exact k1
      · have hdg : (if leF (A 4) ty sp = 99 ∨ leF (A 4) ty sp = 114 then (2 : Int32) else 1) = 1 := if_neg (by rw [hle]; exact fun q => q.elim hc77 hc83)
        refine Rn.steps 1 rfl ?_
        refine Rn.call rfl rfl rfl (c_number d n A w g ty hty ht8 (sp + 1) tm (by omega) _) ?_
        have k1 := kmid l hle hl
        unfold fiF at k1
        rw [hdg] at k1
        exact k1
  have k25 : ∀ l, leF (A 4) ty sp = l → Rn (d + 3) 148 25 [(0, .ref 139), (1, .int l)] [] (mOn A (wT w sp tm) g) n (some (.int (bi (roB (A 4) ty sp)))) (mOn (va_up A 6 (roT (A 4) ty sp tm (A 6))) (wT w (roS (A 4) ty sp) (roM (A 4) ty sp tm)) g) n := by
    intro l hle
    refine Rn.br 3 rfl (fun hc28 => ?_) (fun hc28 => ?_)
    · have hl : isLe l = true := by rw [hc28]; decide
      exact Rn.l2 rfl rfl rfl (k63 l hle hl)
    · refine Rn.br 3 rfl (fun hc34 => ?_) (fun hc34 => ?_)
      · have hl : isLe l = true := by rw [hc34]; decide
        exact Rn.l2 rfl rfl rfl (k63 l hle hl)
      · refine Rn.br 3 rfl (fun hc40 => ?_) (fun hc40 => ?_)
        · have hl : isLe l = true := by rw [hc40]; decide
          exact Rn.l2 rfl rfl rfl (k63 l hle hl)
        · refine Rn.br 3 rfl (fun hc46 => ?_) (fun hc46 => ?_)
          · have hl : isLe l = true := by rw [hc46]; decide
            exact Rn.l2 rfl rfl rfl (k63 l hle hl)
          · refine Rn.br 3 rfl (fun hc52 => ?_) (fun hc52 => ?_)
            · have hl : isLe l = true := by rw [hc52]; decide
              exact Rn.l2 rfl rfl rfl (k63 l hle hl)
            · refine Rn.br 3 rfl (fun hc58 => ?_) (fun hc58 => ?_)
              · have hl : isLe l = true := by rw [hc58]; decide
                exact Rn.l2 rfl rfl rfl (k63 l hle hl)
              · have hl : isLe l = false := by unfold isLe; rw [decide_eq_false hc28, decide_eq_false hc34, decide_eq_false hc40, decide_eq_false hc46, decide_eq_false hc52, decide_eq_false hc58]; rfl
                rw [← hle] at hl
                have hb : roB (A 4) ty sp = false := by unfold roB; rw [hl]; rfl
                have e1 : roT (A 4) ty sp tm (A 6) = A 6 := by unfold roT; rw [hl]; rfl
                have e2 : roS (A 4) ty sp = sp := by unfold roS; rw [hl]; rfl
                have e3 : roM (A 4) ty sp tm = tm := by unfold roM; rw [hl]; rfl
                refine Rn.steps 1 rfl ?_
                exact Rn.retE rfl rfl rfl (by rw [hb]; rfl) (by rw [e1, e2, e3, xup_self])
  refine Rn.br 5 rfl (fun hc8 => ?_) (fun hc8 => ?_)
  · have hb : ¬ sp < ty := fun q => nI_ge (a := sp) (b := ty) q (by omega) (by rw [← hty]; exact hc8)
    have hle : leF (A 4) ty sp = 0 := if_neg hb
    refine Rn.steps 2 rfl ?_
    exact Rn.l2 rfl rfl rfl (k25 _ hle)
  · have hb : sp < ty := by
      rcases Nat.lt_or_ge sp ty with q | q
      · exact q
      · exact (hc8 (by show w 1 ≤ nI sp; rw [hty]; exact nI_le q (by omega))).elim
    have hle : leF (A 4) ty sp = A 4 sp := if_pos hb
    refine Rn.steps 4 rfl ?_
    refine Rn.ialdN (m := sp) rfl rfl rfl (rfl) (by omega) (Nat.le_of_ble_eq_true rfl) ?_
    refine Rn.steps 2 rfl ?_
    exact Rn.l2 rfl rfl rfl (k25 _ hle)
theorem nuF_some {p : Nat → Int32} {ty sp : Nat} {dg : Int32} (h : ¬ (nuF p ty sp dg).1 = -6) : sp < ty ∧ sp + 1 ≤ (nuF p ty sp dg).2 ∧ (nuF p ty sp dg).2 ≤ ty := by
  unfold nuF at h ⊢
  cases hz : seF p ty sp 48 57 with
  | false => rw [hz] at h; exact absurd rfl h
  | true =>
    have h1 : sp < ty := by
      unfold seF at hz
      exact of_decide_eq_true ((Bool.and_eq_true _ _ ▸ hz : _ ∧ _).1)
    simp only [cond]
    cases hq : (decide (0 < p sp - 48) && (decide (1 < dg) && seF p ty (sp + 1) 48 57)) with
    | false => simp only; omega
    | true =>
      obtain ⟨_, q2⟩ := (Bool.and_eq_true _ _ ▸ hq : _ ∧ _)
      obtain ⟨_, q4⟩ := (Bool.and_eq_true _ _ ▸ q2 : _ ∧ _)
      unfold seF at q4
      have h2 : sp + 1 < ty := of_decide_eq_true ((Bool.and_eq_true _ _ ▸ q4 : _ ∧ _).1)
      simp only
      omega
/-- a good order is two characters at least, and ends within the text -/
theorem roB_adv {p : Nat → Int32} {ty sp : Nat} (h : roB p ty sp = true) : sp + 2 ≤ roS p ty sp ∧ roS p ty sp ≤ ty ∧ isLe (leF p ty sp) = true := by
  unfold roB at h
  obtain ⟨h1, h2⟩ := (Bool.and_eq_true _ _ ▸ h : _ ∧ _)
  obtain ⟨h3, h4⟩ := (Bool.and_eq_true _ _ ▸ h2 : _ ∧ _)
  have h5 := of_decide_eq_true h3
  have h6 := of_decide_eq_true h4
  have f1 : sp + 1 < ty ∧ sp + 1 + 1 ≤ (fiF p ty sp).2 ∧ (fiF p ty sp).2 ≤ ty := nuF_some h5
  have e2 : roS p ty sp = (seS p ty sp).2 := by unfold roS; rw [h1]; rfl
  refine ⟨?_, ?_, h1⟩
  · rw [e2]
    unfold seS
    cases (decide (¬ (fiF p ty sp).1 = -6) && decide (leF p ty sp = 99)) with
    | false => show sp + 2 ≤ (fiF p ty sp).2; omega
    | true =>
      cases seF p ty (fiF p ty sp).2 46 46 with
      | false => show sp + 2 ≤ (fiF p ty sp).2; omega
      | true =>
        have := (nuF_le p ty ((fiF p ty sp).2 + 1) 1).1
        show sp + 2 ≤ (nuF p ty ((fiF p ty sp).2 + 1) 1).2
        omega
  · rw [e2]
    unfold seS at h6 ⊢
    cases hq : (decide (¬ (fiF p ty sp).1 = -6) && decide (leF p ty sp = 99)) with
    | false => exact f1.2.2
    | true =>
      rw [hq] at h6
      cases hz : seF p ty (fiF p ty sp).2 46 46 with
      | false => rw [hz] at h6; exact absurd rfl h6
      | true =>
        rw [hz] at h6
        exact (nuF_some h6).2.2
/-- the reading of the pad behind an order: fuel, where it stands, how many orders, what was told; the answer, the end -/
def rpF (p : Nat → Int32) (ty : Nat) : Nat → Nat → Nat → (Nat → Int32) → Bool × Nat × Nat × (Nat → Int32)
  | 0, sp, tm, t => (true, sp, tm, t)
  | r + 1, sp, tm, t => if sp < ty then cond (seF p ty sp 59 59) (cond (roB p ty (sp + 1)) (rpF p ty r (roS p ty (sp + 1)) (roM p ty (sp + 1) tm) (roT p ty (sp + 1) tm t)) (false, roS p ty (sp + 1), roM p ty (sp + 1) tm, roT p ty (sp + 1) tm t)) (false, sp, tm, t) else (true, sp, tm, t)
def rdF (p : Nat → Int32) (ty : Nat) (t : Nat → Int32) : Bool × Nat × Nat × (Nat → Int32) := cond (roB p ty 0) (rpF p ty 27 (roS p ty 0) (roM p ty 0 0) (roT p ty 0 0 t)) (false, roS p ty 0, roM p ty 0 0, roT p ty 0 0 t)
end MODEL7
end
section
/-! the reference: the pad read, faults, orders -/
section RN8
variable {d i pc : Nat} {ls : xLs} {st : List Value} {h h' : xHp} {n n' : Nat} {v : Option Value}
theorem Rn.lsw {e : xEn} {df : Int} {qs : Array (Int × Int)} {x : Int32} {r : List Value} (hf : xfind i pc = some e) (he : e.1 = .lookupswitch df qs) {off : Int} (ho : Op.lookupswitch.offset qs.toList df x.toInt = off) (tgt : Nat) (ht : (pc : Int) + off = (tgt : Int)) (kk : Rn d i tgt ls r h n v h' n') : Rn d i pc ls (.int x :: r) h n v h' n' := by
  obtain ⟨ins, e2⟩ := e
  dsimp only at he
  subst he
  refine Rn.step1 hf rfl ?_ kk
  show xgp (0 ≤ (pc : Int) + Op.lookupswitch.offset qs.toList df x.toInt) _ = _
  rw [ho, ht, xgp_pos (Int.natCast_nonneg tgt)]
  rfl
end RN8
def ordW (z : Nat → Int32) (l a b : Int32) : Int32 := if l = 98 then wne z a 0 else if l = 99 then whyNC z a b else if l = 107 then wne z a 1 else if l = 114 then wnr z a else cond (isC z a) 0 (-1)
section MODEL8
variable (d n : Nat) (A : Nat → Nat → Int32) (w : Nat → Int32) (g h : xHp) (ty : Nat)
theorem c_rp (hty : w 1 = nI ty) (ht8 : ty ≤ 80) : ∀ (r sp tm : Nat) (t : Nat → Int32), sp ≤ ty → 80 ≤ sp + 3 * r → tm + r ≤ 38 → Rn (d + 4) 149 15 [(0, .ref 139), (1, .int 1)] [] (mOn (va_up A 6 t) (wT w sp tm) g) n (some (.int (bi (rpF (A 4) ty r sp tm t).1))) (mOn (va_up A 6 (rpF (A 4) ty r sp tm t).2.2.2) (wT w (rpF (A 4) ty r sp tm t).2.1 (rpF (A 4) ty r sp tm t).2.2.1) g) n := by
  intro r
  induction r with
  | zero =>
    intro sp tm t h1 h2 h3
    have hs : sp = ty := by omega
    subst hs
    refine Rn.br 7 rfl (fun hc27 => ?_) (fun hc27 => ?_)
    · refine Rn.steps 1 rfl ?_
      exact Rn.retE rfl rfl rfl rfl rfl
    · exact (hc27 (by show w 1 ≤ nI sp; rw [hty]; exact nI_le (Nat.le_refl _) (by omega))).elim
  | succ r ih =>
    intro sp tm t h1 h2 h3
    by_cases hlt : sp < ty
    · have e0 : rpF (A 4) ty (r + 1) sp tm t = cond (seF (A 4) ty sp 59 59) (cond (roB (A 4) ty (sp + 1)) (rpF (A 4) ty r (roS (A 4) ty (sp + 1)) (roM (A 4) ty (sp + 1) tm) (roT (A 4) ty (sp + 1) tm t)) (false, roS (A 4) ty (sp + 1), roM (A 4) ty (sp + 1) tm, roT (A 4) ty (sp + 1) tm t)) (false, sp, tm, t) := by rw [rpF, if_pos hlt]
      cases hz : seF (A 4) ty sp 59 59 with
      | false =>
        rw [show rpF (A 4) ty (r + 1) sp tm t = (false, sp, tm, t) by rw [e0, hz]; rfl]
        refine Rn.br 7 rfl (fun hc27 => ?_) (fun hc27 => ?_)
        · exact (nI_ge hlt (by omega) (by rw [← hty]; exact hc27)).elim
        · refine Rn.steps 2 rfl ?_
          refine Rn.call rfl rfl rfl (c_takes (d + 1) n (va_up A 6 t) w g ty hty ht8 sp tm (by omega) 59) ?_
          rw [show taS (va_up A 6 t 4) ty sp 59 = sp by unfold taS; rw [show seF (va_up A 6 t 4) ty sp 59 59 = false from hz]; rfl]
          refine Rn.br 1 rfl (fun hc36 => ?_) (fun hc36 => ?_)
          · refine Rn.steps 3 rfl ?_
            refine Rn.steps 3 rfl ?_
            exact Rn.retE rfl rfl rfl rfl rfl
          · exact absurd (bi_ne0 hc36) (by rw [show seF (va_up A 6 t 4) ty sp 59 59 = false from hz]; decide)
      | true =>
        cases hb : roB (A 4) ty (sp + 1) with
        | false =>
          rw [show rpF (A 4) ty (r + 1) sp tm t = (false, roS (A 4) ty (sp + 1), roM (A 4) ty (sp + 1) tm, roT (A 4) ty (sp + 1) tm t) by rw [e0, hz, hb]; rfl]
          refine Rn.br 7 rfl (fun hc27 => ?_) (fun hc27 => ?_)
          · exact (nI_ge hlt (by omega) (by rw [← hty]; exact hc27)).elim
          · refine Rn.steps 2 rfl ?_
            refine Rn.call rfl rfl rfl (c_takes (d + 1) n (va_up A 6 t) w g ty hty ht8 sp tm (by omega) 59) ?_
            rw [show taS (va_up A 6 t 4) ty sp 59 = sp + 1 by unfold taS; rw [show seF (va_up A 6 t 4) ty sp 59 59 = true from hz]; rfl]
            refine Rn.br 1 rfl (fun hc36 => ?_) (fun hc36 => ?_)
            · exact absurd (bi_eq0 hc36) (by rw [show seF (va_up A 6 t 4) ty sp 59 59 = true from hz]; decide)
            · refine Rn.steps 1 rfl ?_
              refine Rn.call rfl rfl rfl (c_readOrder d n (va_up A 6 t) w g ty hty ht8 (sp + 1) tm (by omega) (by omega)) ?_
              rw [bx_uu]
              refine Rn.br 1 rfl (fun hc43 => ?_) (fun hc43 => ?_)
              · refine Rn.steps 3 rfl ?_
                refine Rn.steps 3 rfl ?_
                exact Rn.retE rfl rfl rfl rfl rfl
              · exact absurd (bi_ne0 hc43) (by rw [show roB (va_up A 6 t 4) ty (sp + 1) = false from hb]; decide)
        | true =>
          have hadv := roB_adv hb
          have hm : roM (A 4) ty (sp + 1) tm = tm + 1 := by unfold roM; rw [hadv.2.2]; rfl
          have k1 := ih (roS (A 4) ty (sp + 1)) (roM (A 4) ty (sp + 1) tm) (roT (A 4) ty (sp + 1) tm t) hadv.2.1 (by omega) (by omega)
          rw [show rpF (A 4) ty (r + 1) sp tm t = rpF (A 4) ty r (roS (A 4) ty (sp + 1)) (roM (A 4) ty (sp + 1) tm) (roT (A 4) ty (sp + 1) tm t) by rw [e0, hz, hb]; rfl]
          refine Rn.br 7 rfl (fun hc27 => ?_) (fun hc27 => ?_)
          · exact (nI_ge hlt (by omega) (by rw [← hty]; exact hc27)).elim
          · refine Rn.steps 2 rfl ?_
            refine Rn.call rfl rfl rfl (c_takes (d + 1) n (va_up A 6 t) w g ty hty ht8 sp tm (by omega) 59) ?_
            rw [show taS (va_up A 6 t 4) ty sp 59 = sp + 1 by unfold taS; rw [show seF (va_up A 6 t 4) ty sp 59 59 = true from hz]; rfl]
            refine Rn.br 1 rfl (fun hc36 => ?_) (fun hc36 => ?_)
            · exact absurd (bi_eq0 hc36) (by rw [show seF (va_up A 6 t 4) ty sp 59 59 = true from hz]; decide)
            · refine Rn.steps 1 rfl ?_
              refine Rn.call rfl rfl rfl (c_readOrder d n (va_up A 6 t) w g ty hty ht8 (sp + 1) tm (by omega) (by omega)) ?_
              rw [bx_uu]
              refine Rn.br 1 rfl (fun hc43 => ?_) (fun hc43 => ?_)
              · exact absurd (bi_eq0 hc43) (by rw [show roB (va_up A 6 t 4) ty (sp + 1) = true from hb]; decide)
              · refine Rn.steps 4 rfl ?_
                exact Rn.l2 rfl rfl rfl k1
    · rw [show rpF (A 4) ty (r + 1) sp tm t = (true, sp, tm, t) by rw [rpF, if_neg hlt]]
      refine Rn.br 7 rfl (fun hc27 => ?_) (fun hc27 => ?_)
      · refine Rn.steps 1 rfl ?_
        exact Rn.retE rfl rfl rfl rfl rfl
      · exact (hc27 (by show w 1 ≤ nI sp; rw [hty]; exact nI_le (by omega) (by omega))).elim
theorem c_readPad (hty : w 1 = nI ty) (ht8 : ty ≤ 80) : Rn (d + 4) 149 0 [(0, .ref 139)] [] (mOn A w g) n (some (.int (bi (rdF (A 4) ty (A 6)).1))) (mOn (va_up A 6 (rdF (A 4) ty (A 6)).2.2.2) (wT w (rdF (A 4) ty (A 6)).2.1 (rdF (A 4) ty (A 6)).2.2.1) g) n := by
  cases hb : roB (A 4) ty 0 with
  | false =>
    rw [show rdF (A 4) ty (A 6) = (false, roS (A 4) ty 0, roM (A 4) ty 0 0, roT (A 4) ty 0 0 (A 6)) by unfold rdF; rw [hb]; rfl]
    refine Rn.steps 3 rfl ?_
    refine Rn.heap mOn_w3 ?_
    refine Rn.steps 3 rfl ?_
    refine Rn.heap (h2 := mOn A (wT w 0 0) g) mOn_w4 ?_
    refine Rn.steps 1 rfl ?_
    refine Rn.call rfl rfl rfl (c_readOrder d n A w g ty hty ht8 0 0 (by omega) (by omega)) ?_
    refine Rn.br 3 rfl (fun hc16 => ?_) (fun hc16 => ?_)
    · refine Rn.l2 (a := 0) (b := 1) (x := .ref 139) (y := .int 0) rfl rfl (by show some (Value.int (bi (roB (A 4) ty 0))) = _; rw [hb]; rfl) ?_
      refine Rn.steps 1 rfl ?_
      exact Rn.retE rfl rfl rfl rfl rfl
    · exact absurd (bi_ne0 hc16) (by rw [hb]; decide)
  | true =>
    have hadv := roB_adv hb
    have hm : roM (A 4) ty 0 0 = 1 := by unfold roM; rw [hadv.2.2]; rfl
    have k1 := c_rp d n A w g ty hty ht8 27 (roS (A 4) ty 0) (roM (A 4) ty 0 0) (roT (A 4) ty 0 0 (A 6)) hadv.2.1 (by omega) (by omega)
    rw [show rdF (A 4) ty (A 6) = rpF (A 4) ty 27 (roS (A 4) ty 0) (roM (A 4) ty 0 0) (roT (A 4) ty 0 0 (A 6)) by unfold rdF; rw [hb]; rfl]
    refine Rn.steps 3 rfl ?_
    refine Rn.heap mOn_w3 ?_
    refine Rn.steps 3 rfl ?_
    refine Rn.heap (h2 := mOn A (wT w 0 0) g) mOn_w4 ?_
    refine Rn.steps 1 rfl ?_
    refine Rn.call rfl rfl rfl (c_readOrder d n A w g ty hty ht8 0 0 (by omega) (by omega)) ?_
    refine Rn.steps 1 rfl ?_
    exact Rn.l2 rfl rfl (by show some (Value.int (bi (roB (A 4) ty 0))) = _; rw [hb]; rfl) k1
theorem c_fault (hty : w 1 = nI ty) (ht8 : ty ≤ 80) : Rn (d + 5) 150 0 [(0, .ref 139)] [] (mOn A w g) n (some (.int (cond (rdF (A 4) ty (A 6)).1 (-6) (nI (rdF (A 4) ty (A 6)).2.1)))) (mOn (va_up A 6 (rdF (A 4) ty (A 6)).2.2.2) (wT w (rdF (A 4) ty (A 6)).2.1 (rdF (A 4) ty (A 6)).2.2.1) g) n := by
  refine Rn.steps 1 rfl ?_
  refine Rn.call rfl rfl rfl (c_readPad d n A w g ty hty ht8) ?_
  refine Rn.br 1 rfl (fun hc4 => ?_) (fun hc4 => ?_)
  · have hz := bi_eq0 hc4
    refine Rn.steps 2 rfl ?_
    exact Rn.retE rfl rfl rfl (by rw [hz]; rfl) rfl
  · have hz := bi_ne0 hc4
    refine Rn.steps 2 rfl ?_
    exact Rn.retE rfl rfl rfl (by rw [hz]; rfl) rfl
theorem c_wipe : Rn d 144 0 [(0, .ref 139)] [] (mOn A w g) n (some (.int (w 1))) (mOn A (upd w 1 0) g) n := by
  refine Rn.steps 6 rfl ?_
  refine Rn.heap mOn_w1 ?_
  refine Rn.steps 1 rfl ?_
  exact Rn.retE rfl rfl rfl rfl rfl
theorem c_whyNot_b (hne : ¬ 2 * A 0 0 = 0) (k : Nat) (hk : k ≤ 39) (hl : A 6 (3 * k) = 98) : Rn (d + 5) 151 0 [(0, .ref 139), (1, .int (nI k))] [] (mOn A w g) n (some (.int (ordW (A 0) (A 6 (3 * k)) (A 6 (3 * k + 1)) (A 6 (3 * k + 2))))) (mOn A w g) n := by
  refine Rn.steps 7 rfl ?_
  refine Rn.ialdN (m := 3 * k + 1) rfl rfl rfl ((by rw [← nI_1, ← x3t])) (by omega) (Nat.le_of_ble_eq_true rfl) ?_
  refine Rn.steps 6 rfl ?_
  refine Rn.ialdN (m := 3 * k) rfl rfl rfl (x3t k) (by omega) (Nat.le_of_ble_eq_true rfl) ?_
  rw [hl]
  refine Rn.steps 1 rfl ?_
  refine Rn.steps 3 rfl ?_
  refine Rn.call rfl rfl rfl (c_whyNotEnd (d + 2) n A w g _ 0) ?_
  exact Rn.retE rfl rfl rfl rfl rfl
theorem c_whyNot_k (hne : ¬ 2 * A 0 0 = 0) (k : Nat) (hk : k ≤ 39) (hl : A 6 (3 * k) = 107) : Rn (d + 5) 151 0 [(0, .ref 139), (1, .int (nI k))] [] (mOn A w g) n (some (.int (ordW (A 0) (A 6 (3 * k)) (A 6 (3 * k + 1)) (A 6 (3 * k + 2))))) (mOn A w g) n := by
  refine Rn.steps 7 rfl ?_
  refine Rn.ialdN (m := 3 * k + 1) rfl rfl rfl ((by rw [← nI_1, ← x3t])) (by omega) (Nat.le_of_ble_eq_true rfl) ?_
  refine Rn.steps 6 rfl ?_
  refine Rn.ialdN (m := 3 * k) rfl rfl rfl (x3t k) (by omega) (Nat.le_of_ble_eq_true rfl) ?_
  rw [hl]
  refine Rn.steps 1 rfl ?_
  refine Rn.steps 3 rfl ?_
  refine Rn.call rfl rfl rfl (c_whyNotEnd (d + 2) n A w g _ 1) ?_
  exact Rn.retE rfl rfl rfl rfl rfl
theorem c_whyNot_r (hne : ¬ 2 * A 0 0 = 0) (k : Nat) (hk : k ≤ 39) (hl : A 6 (3 * k) = 114) : Rn (d + 5) 151 0 [(0, .ref 139), (1, .int (nI k))] [] (mOn A w g) n (some (.int (ordW (A 0) (A 6 (3 * k)) (A 6 (3 * k + 1)) (A 6 (3 * k + 2))))) (mOn A w g) n := by
  refine Rn.steps 7 rfl ?_
  refine Rn.ialdN (m := 3 * k + 1) rfl rfl rfl ((by rw [← nI_1, ← x3t])) (by omega) (Nat.le_of_ble_eq_true rfl) ?_
  refine Rn.steps 6 rfl ?_
  refine Rn.ialdN (m := 3 * k) rfl rfl rfl (x3t k) (by omega) (Nat.le_of_ble_eq_true rfl) ?_
  rw [hl]
  refine Rn.steps 1 rfl ?_
  refine Rn.steps 2 rfl ?_
  refine Rn.call rfl rfl rfl (c_whyNotRun (d + 3) n A w g _) ?_
  exact Rn.retE rfl rfl rfl rfl rfl
theorem c_whyNot_c (hne : ¬ 2 * A 0 0 = 0) (k : Nat) (hk : k ≤ 39) (hl : A 6 (3 * k) = 99) : Rn (d + 5) 151 0 [(0, .ref 139), (1, .int (nI k))] [] (mOn A w g) n (some (.int (ordW (A 0) (A 6 (3 * k)) (A 6 (3 * k + 1)) (A 6 (3 * k + 2))))) (mOn A w g) n := by
  refine Rn.steps 7 rfl ?_
  refine Rn.ialdN (m := 3 * k + 1) rfl rfl rfl ((by rw [← nI_1, ← x3t])) (by omega) (Nat.le_of_ble_eq_true rfl) ?_
  refine Rn.steps 6 rfl ?_
  refine Rn.ialdN (m := 3 * k) rfl rfl rfl (x3t k) (by omega) (Nat.le_of_ble_eq_true rfl) ?_
  rw [hl]
  refine Rn.steps 1 rfl ?_
  refine Rn.steps 9 rfl ?_
  refine Rn.ialdN (m := 3 * k + 2) rfl rfl rfl ((by rw [← nI_add, ← x3t]; rfl)) (by omega) (Nat.le_of_ble_eq_true rfl) ?_
  refine Rn.call rfl rfl rfl (c_whyNotCarrier d n A w g hne _ _) ?_
  exact Rn.retE rfl rfl rfl rfl rfl
theorem c_whyNot_o (k : Nat) (hk : k ≤ 39) (hl : A 6 (3 * k) = 120 ∨ A 6 (3 * k) = 102) : Rn (d + 5) 151 0 [(0, .ref 139), (1, .int (nI k))] [] (mOn A w g) n (some (.int (ordW (A 0) (A 6 (3 * k)) (A 6 (3 * k + 1)) (A 6 (3 * k + 2))))) (mOn A w g) n := by
  have e : ∀ l, (l = 120 ∨ l = 102) → ∀ z a b, ordW z l a b = cond (isC z a) 0 (-1) := by
    intro l hl z a b
    rcases hl with rfl | rfl <;> rfl
  rw [e _ hl]
  refine Rn.steps 7 rfl ?_
  refine Rn.ialdN (m := 3 * k + 1) rfl rfl rfl ((by rw [← nI_1, ← x3t])) (by omega) (Nat.le_of_ble_eq_true rfl) ?_
  refine Rn.steps 6 rfl ?_
  refine Rn.ialdN (m := 3 * k) rfl rfl rfl (x3t k) (by omega) (Nat.le_of_ble_eq_true rfl) ?_
  rcases hl with hl | hl
  · rw [hl]
    refine Rn.steps 1 rfl ?_
    refine Rn.steps 2 rfl ?_
    refine Rn.call rfl rfl rfl (c_isCx (d + 3) n A w g _) ?_
    refine Rn.br 1 rfl (fun hc101 => ?_) (fun hc101 => ?_)
    · have hz := bi_eq0 hc101
      refine Rn.steps 1 rfl ?_
      exact Rn.retE rfl rfl rfl (by rw [hz]; rfl) rfl
    · have hz := bi_ne0 hc101
      refine Rn.steps 2 rfl ?_
      exact Rn.retE rfl rfl rfl (by rw [hz]; rfl) rfl
  · rw [hl]
    refine Rn.steps 1 rfl ?_
    refine Rn.steps 2 rfl ?_
    refine Rn.call rfl rfl rfl (c_isCx (d + 3) n A w g _) ?_
    refine Rn.br 1 rfl (fun hc101 => ?_) (fun hc101 => ?_)
    · have hz := bi_eq0 hc101
      refine Rn.steps 1 rfl ?_
      exact Rn.retE rfl rfl rfl (by rw [hz]; rfl) rfl
    · have hz := bi_ne0 hc101
      refine Rn.steps 2 rfl ?_
      exact Rn.retE rfl rfl rfl (by rw [hz]; rfl) rfl
end MODEL8
end
section
/-! the reference: orders carried out -/
def fr (z : Nat → Int32) : Nat → Nat → Nat | 0, c => c | r + 1, c => cond (zt z c) (fr z r (c + 1)) c
def ffree (z : Nat → Int32) : Nat := fr z 10 0
theorem fr_spec (z : Nat → Int32) : ∀ r c, (∀ j, j < c → zt z j = true) → (fr z r c ≤ c + r ∧ c ≤ fr z r c) ∧ (∀ j, j < fr z r c → zt z j = true) ∧ (fr z r c < c + r → zt z (fr z r c) = false) := by
  intro r
  induction r with
  | zero => intro c hc; exact ⟨⟨Nat.le_refl _, Nat.le_refl _⟩, hc, fun h => absurd h (Nat.lt_irrefl _)⟩
  | succ r ih =>
    intro c hc
    unfold fr
    cases hz : zt z c with
    | false => exact ⟨⟨by simp only [cond]; omega, Nat.le_refl _⟩, hc, fun _ => hz⟩
    | true =>
      have h1 := ih (c + 1) (fun j hj => by
        rcases Nat.lt_or_ge j c with q | q
        · exact hc j q
        · rw [show j = c by omega]; exact hz)
      simp only [cond]
      exact ⟨⟨by omega, by omega⟩, h1.2.1, fun h => h1.2.2 (by omega)⟩
theorem many_all (z : Nat → Int32) : ∀ c, (∀ j, j < c → zt z j = true) → mMany z c = nI c := by
  intro c
  induction c with
  | zero => intro _; rfl
  | succ c ih =>
    intro h
    unfold mMany
    rw [ih (fun j hj => h j (by omega)), h c (by omega)]
    exact nI_1 c
theorem ffree_ok {z : Nat → Int32} (h : ¬ mMany z 10 = 10) : ffree z < 10 ∧ zt z (ffree z) = false ∧ ∀ j, j < ffree z → zt z j = true := by
  have h1 := fr_spec z 10 0 (fun j hj => absurd hj (Nat.not_lt_zero _))
  have h2 : ffree z < 10 := by
    rcases Nat.lt_or_ge (ffree z) 10 with q | q
    · exact q
    · exact (h (many_all z 10 (fun j hj => h1.2.1 j (Nat.lt_of_lt_of_le hj q)))).elim
  exact ⟨h2, h1.2.2 (by show ffree z < 0 + 10; omega), h1.2.1⟩
theorem whyNC_ok {z : Nat → Int32} {x q : Int32} (h : ¬ whyNC z x q < 0) : isPl (2 * z 0) x q = true ∧ isFr z (4 * x + q) = true ∧ ¬ mMany z 10 = 10 := by
  unfold whyNC at h
  cases h1 : isPl (2 * z 0) x q with
  | false => rw [h1] at h; exact absurd (show (-1 : Int32) < 0 by decide) h
  | true =>
    rw [h1] at h
    cases h2 : isFr z (4 * x + q) with
    | false => rw [h2] at h; exact absurd (show (-5 : Int32) < 0 by decide) h
    | true =>
      rw [h2] at h
      refine ⟨rfl, rfl, fun h3 => ?_⟩
      simp only [cond] at h
      rw [if_pos h3] at h
      exact absurd (by decide) h
theorem wnr_ok {z : Nat → Int32} {x : Int32} (h : ¬ wnr z x < 0) : ∃ N : Nat, 1 ≤ N ∧ N ≤ 99 ∧ x = nI N ∧ z 3 + x ≤ 9999 := by
  unfold wnr at h
  cases h1 : decide (1 ≤ x ∧ x ≤ 99) with
  | false => rw [h1] at h; exact absurd (show (-2 : Int32) < 0 by decide) h
  | true =>
    rw [h1] at h
    obtain ⟨h2, h3⟩ := of_decide_eq_true h1
    obtain ⟨j, hj, e⟩ := nI_of2 (M := 99) (n := 99) rfl (Int32.not_lt.mpr (Int32.le_trans (by decide) h2)) h3
    refine ⟨j, ?_, hj, e, ?_⟩
    · rcases Nat.lt_or_ge j 1 with q | q
      · rw [e, show j = 0 by omega] at h2
        exact absurd h2 (by decide)
      · exact q
    · rcases Int32.le_total (z 3 + x) 9999 with q | q
      · exact q
      · by_cases q2 : z 3 + x ≤ 9999
        · exact q2
        · simp only [cond] at h
          rw [if_neg q2] at h
          exact absurd (by decide) h
theorem wne_ok {z : Nat → Int32} {x e : Int32} (h : ¬ wne z x e < 0) : ∃ c : Nat, c < 10 ∧ x = nI c ∧ zt z c = true ∧ z (10 + 7 * c + 2) = e := by
  unfold wne at h
  cases h1 : isC z x with
  | false => rw [h1] at h; exact absurd (show (-1 : Int32) < 0 by decide) h
  | true =>
    obtain ⟨c, hc, rfl, hz⟩ := isC_of h1
    refine ⟨c, hc, rfl, hz, ?_⟩
    rw [h1] at h
    simp only [cond] at h
    rw [nI_clamp (by omega)] at h
    by_cases q : z (10 + 7 * c + 2) = e
    · exact q
    · rw [if_neg q] at h; exact absurd (by decide) h
def ordZ (z : Nat → Int32) (P : Nat) (l a b : Int32) : Nat → Int32 := if l = 98 then upd z (10 + 7 * a.toNatClampNeg + 2) 1 else if l = 99 then newZ z (ffree z) (4 * a + b) else if l = 107 then tieZ z a.toNatClampNeg else if l = 114 then (runZ P a.toNatClampNeg z).2 else if l = 120 then toZ z a.toNatClampNeg else refZ z a.toNatClampNeg
theorem rz_0 (P : Nat) : ∀ r i z, (rz P r i z).2 0 = z 0 := by
  intro r
  induction r with
  | zero => intro i z; rfl
  | succ r ih =>
    intro i z
    unfold rz
    split
    · rw [ih, upd_ne (by omega), stF_0]
    · rfl
theorem ordZ_0 (z : Nat → Int32) (P : Nat) (l a b : Int32) : ordZ z P l a b 0 = z 0 := by
  unfold ordZ
  split
  · exact upd_ne (by omega)
  · split
    · unfold newZ fillZ
      rw [upd_ne (by omega), upd_ne (by omega), upd_ne (by omega)]
      unfold layN
      rw [if_neg (by omega)]
    · split
      · unfold tieZ
        rw [upd_ne (by omega), upd_ne (by omega)]
      · split
        · unfold runZ
          rw [rz_0, upd_ne (by omega)]
        · split
          · unfold toZ
            rw [upd_ne (by omega), upd_ne (by omega)]
          · unfold refZ fillZ
            rw [upd_ne (by omega), upd_ne (by omega), upd_ne (by omega)]
section MODEL9
variable (d n : Nat) (A : Nat → Nat → Int32) (w : Nat → Int32) (g h : xHp) (ty : Nat)
theorem k_do_b (z a : Nat → Int32) (x : Int32) (P : Nat) (hP : z 0 = nI P) (h2 : 2 ≤ P) (h6 : P ≤ 6) (k : Nat) (hk : k ≤ 39) (hl : A 6 (3 * k) = 98) (ho : ordW z 98 (A 6 (3 * k + 1)) (A 6 (3 * k + 2)) = 0) : ∃ a' x', Rn (d + 5) 152 0 [(0, .ref 139), (1, .int (nI k))] [] (mOn (mZ A z a) (upd w 2 x) g) n none (mOn (mZ A (ordZ z P 98 (A 6 (3 * k + 1)) (A 6 (3 * k + 2))) a') (upd w 2 x') g) n := by
  obtain ⟨c, hc, e1, hz, e2⟩ := wne_ok (z := z) (x := A 6 (3 * k + 1)) (e := 0) (by
    have q : wne z (A 6 (3 * k + 1)) 0 = 0 := ho
    rw [q]
    decide)
  rw [e1]
  rw [show ordZ z P 98 (nI c) (A 6 (3 * k + 2)) = upd z (10 + 7 * c + 2) 1 by show upd z (10 + 7 * (nI c).toNatClampNeg + 2) 1 = _; rw [nI_clamp (by omega)]]
  refine ⟨a, x, ?_⟩
  refine Rn.steps 7 rfl ?_
  refine Rn.ialdN (m := 3 * k + 1) rfl rfl rfl ((by rw [← nI_1, ← x3t])) (by omega) (Nat.le_of_ble_eq_true rfl) ?_
  refine Rn.steps 6 rfl ?_
  refine Rn.ialdN (m := 3 * k) rfl rfl rfl (x3t k) (by omega) (Nat.le_of_ble_eq_true rfl) ?_
  rw [show mZ A z a 6 (3 * k) = 98 from hl]
  refine Rn.steps 1 rfl ?_
  refine Rn.steps 4 rfl ?_
  refine Rn.stk (st2 := [.int 1, .int (nI 2), .int (nI c), .ref 139]) (by rw [← e1]; rfl) ?_
  refine Rn.call rfl rfl rfl (c_lay (d + 4) n (mZ A z a) _ g c 2 1 hc (by omega)) ?_
  rw [mZ_up0]
  refine Rn.steps 1 rfl ?_
  exact Rn.retE rfl rfl rfl rfl rfl
theorem k_do_k (z a : Nat → Int32) (x : Int32) (P : Nat) (hP : z 0 = nI P) (h2 : 2 ≤ P) (h6 : P ≤ 6) (k : Nat) (hk : k ≤ 39) (hl : A 6 (3 * k) = 107) (ho : ordW z 107 (A 6 (3 * k + 1)) (A 6 (3 * k + 2)) = 0) : ∃ a' x', Rn (d + 5) 152 0 [(0, .ref 139), (1, .int (nI k))] [] (mOn (mZ A z a) (upd w 2 x) g) n none (mOn (mZ A (ordZ z P 107 (A 6 (3 * k + 1)) (A 6 (3 * k + 2))) a') (upd w 2 x') g) n := by
  obtain ⟨c, hc, e1, hz, e2⟩ := wne_ok (z := z) (x := A 6 (3 * k + 1)) (e := 1) (by
    have q : wne z (A 6 (3 * k + 1)) 1 = 0 := ho
    rw [q]
    decide)
  rw [e1]
  rw [show ordZ z P 107 (nI c) (A 6 (3 * k + 2)) = tieZ z c by show tieZ z (nI c).toNatClampNeg = _; rw [nI_clamp (by omega)]]
  refine ⟨a, x, ?_⟩
  refine Rn.steps 7 rfl ?_
  refine Rn.ialdN (m := 3 * k + 1) rfl rfl rfl ((by rw [← nI_1, ← x3t])) (by omega) (Nat.le_of_ble_eq_true rfl) ?_
  refine Rn.steps 6 rfl ?_
  refine Rn.ialdN (m := 3 * k) rfl rfl rfl (x3t k) (by omega) (Nat.le_of_ble_eq_true rfl) ?_
  rw [show mZ A z a 6 (3 * k) = 107 from hl]
  refine Rn.steps 1 rfl ?_
  refine Rn.steps 2 rfl ?_
  refine Rn.stk (st2 := [.int (nI c), .ref 139]) (by rw [← e1]; rfl) ?_
  refine Rn.call rfl rfl rfl (c_tieNow (d + 3) n (mZ A z a) _ g c hc) ?_
  rw [mZ_up0]
  refine Rn.steps 1 rfl ?_
  exact Rn.retE rfl rfl rfl rfl rfl
theorem k_do_x (z a : Nat → Int32) (x : Int32) (P : Nat) (hP : z 0 = nI P) (h2 : 2 ≤ P) (h6 : P ≤ 6) (k : Nat) (hk : k ≤ 39) (hl : A 6 (3 * k) = 120) (ho : ordW z 120 (A 6 (3 * k + 1)) (A 6 (3 * k + 2)) = 0) : ∃ a' x', Rn (d + 5) 152 0 [(0, .ref 139), (1, .int (nI k))] [] (mOn (mZ A z a) (upd w 2 x) g) n none (mOn (mZ A (ordZ z P 120 (A 6 (3 * k + 1)) (A 6 (3 * k + 2))) a') (upd w 2 x') g) n := by
  obtain ⟨c, hc, e1, hz⟩ := isC_of (z := z) (x := A 6 (3 * k + 1)) (by
    cases q : isC z (A 6 (3 * k + 1)) with
    | true => rfl
    | false =>
      have q2 : cond (isC z (A 6 (3 * k + 1))) (0 : Int32) (-1) = 0 := ho
      rw [q] at q2
      exact absurd q2 (by decide))
  rw [e1]
  rw [show ordZ z P 120 (nI c) (A 6 (3 * k + 2)) = toZ z c by show toZ z (nI c).toNatClampNeg = _; rw [nI_clamp (by omega)]]
  refine ⟨a, x, ?_⟩
  refine Rn.steps 7 rfl ?_
  refine Rn.ialdN (m := 3 * k + 1) rfl rfl rfl ((by rw [← nI_1, ← x3t])) (by omega) (Nat.le_of_ble_eq_true rfl) ?_
  refine Rn.steps 6 rfl ?_
  refine Rn.ialdN (m := 3 * k) rfl rfl rfl (x3t k) (by omega) (Nat.le_of_ble_eq_true rfl) ?_
  rw [show mZ A z a 6 (3 * k) = 120 from hl]
  refine Rn.steps 1 rfl ?_
  refine Rn.steps 2 rfl ?_
  refine Rn.stk (st2 := [.int (nI c), .ref 139]) (by rw [← e1]; rfl) ?_
  refine Rn.call rfl rfl rfl (c_takeOutNow (d + 3) n (mZ A z a) _ g c hc) ?_
  rw [mZ_up0]
  refine Rn.steps 1 rfl ?_
  exact Rn.retE rfl rfl rfl rfl rfl
theorem k_do_f (z a : Nat → Int32) (x : Int32) (P : Nat) (hP : z 0 = nI P) (h2 : 2 ≤ P) (h6 : P ≤ 6) (k : Nat) (hk : k ≤ 39) (hl : A 6 (3 * k) = 102) (ho : ordW z 102 (A 6 (3 * k + 1)) (A 6 (3 * k + 2)) = 0) : ∃ a' x', Rn (d + 5) 152 0 [(0, .ref 139), (1, .int (nI k))] [] (mOn (mZ A z a) (upd w 2 x) g) n none (mOn (mZ A (ordZ z P 102 (A 6 (3 * k + 1)) (A 6 (3 * k + 2))) a') (upd w 2 x') g) n := by
  obtain ⟨c, hc, e1, hz⟩ := isC_of (z := z) (x := A 6 (3 * k + 1)) (by
    cases q : isC z (A 6 (3 * k + 1)) with
    | true => rfl
    | false =>
      have q2 : cond (isC z (A 6 (3 * k + 1))) (0 : Int32) (-1) = 0 := ho
      rw [q] at q2
      exact absurd q2 (by decide))
  rw [e1]
  rw [show ordZ z P 102 (nI c) (A 6 (3 * k + 2)) = refZ z c by show refZ z (nI c).toNatClampNeg = _; rw [nI_clamp (by omega)]]
  refine ⟨a, x, ?_⟩
  refine Rn.steps 7 rfl ?_
  refine Rn.ialdN (m := 3 * k + 1) rfl rfl rfl ((by rw [← nI_1, ← x3t])) (by omega) (Nat.le_of_ble_eq_true rfl) ?_
  refine Rn.steps 6 rfl ?_
  refine Rn.ialdN (m := 3 * k) rfl rfl rfl (x3t k) (by omega) (Nat.le_of_ble_eq_true rfl) ?_
  rw [show mZ A z a 6 (3 * k) = 102 from hl]
  refine Rn.steps 1 rfl ?_
  refine Rn.steps 2 rfl ?_
  refine Rn.stk (st2 := [.int (nI c), .ref 139]) (by rw [← e1]; rfl) ?_
  refine Rn.call rfl rfl rfl (c_refillNow (d + 2) n (mZ A z a) _ g c hc) ?_
  rw [mZ_up0]
  exact Rn.retE rfl rfl rfl rfl rfl
theorem k_do_c (z a : Nat → Int32) (x : Int32) (P : Nat) (hP : z 0 = nI P) (h2 : 2 ≤ P) (h6 : P ≤ 6) (k : Nat) (hk : k ≤ 39) (hl : A 6 (3 * k) = 99) (ho : ordW z 99 (A 6 (3 * k + 1)) (A 6 (3 * k + 2)) = 0) : ∃ a' x', Rn (d + 5) 152 0 [(0, .ref 139), (1, .int (nI k))] [] (mOn (mZ A z a) (upd w 2 x) g) n none (mOn (mZ A (ordZ z P 99 (A 6 (3 * k + 1)) (A 6 (3 * k + 2))) a') (upd w 2 x') g) n := by
  have hn : ¬ whyNC z (A 6 (3 * k + 1)) (A 6 (3 * k + 2)) < 0 := by
    have q : whyNC z (A 6 (3 * k + 1)) (A 6 (3 * k + 2)) = 0 := ho
    rw [q]
    decide
  obtain ⟨f1, f2, f3⟩ := ffree_ok (whyNC_ok hn).2.2
  refine ⟨a, x, ?_⟩
  refine Rn.steps 7 rfl ?_
  refine Rn.ialdN (m := 3 * k + 1) rfl rfl rfl ((by rw [← nI_1, ← x3t])) (by omega) (Nat.le_of_ble_eq_true rfl) ?_
  refine Rn.steps 6 rfl ?_
  refine Rn.ialdN (m := 3 * k) rfl rfl rfl (x3t k) (by omega) (Nat.le_of_ble_eq_true rfl) ?_
  rw [show mZ A z a 6 (3 * k) = 99 from hl]
  refine Rn.steps 1 rfl ?_
  refine Rn.steps 9 rfl ?_
  refine Rn.ialdN (m := 3 * k + 2) rfl rfl rfl ((by rw [← nI_add, ← x3t]; rfl)) (by omega) (Nat.le_of_ble_eq_true rfl) ?_
  refine Rn.call rfl rfl rfl (c_carrierNow (d + 2) n (mZ A z a) _ g (ffree z) f1 f2 f3 _ _) ?_
  rw [mZ_up0]
  refine Rn.steps 2 rfl ?_
  exact Rn.retE rfl rfl rfl rfl rfl
theorem k_do_r (z a : Nat → Int32) (x : Int32) (P : Nat) (hP : z 0 = nI P) (h2 : 2 ≤ P) (h6 : P ≤ 6) (k : Nat) (hk : k ≤ 39) (hl : A 6 (3 * k) = 114) (ho : ordW z 114 (A 6 (3 * k + 1)) (A 6 (3 * k + 2)) = 0) : ∃ a' x', Rn (d + 5) 152 0 [(0, .ref 139), (1, .int (nI k))] [] (mOn (mZ A z a) (upd w 2 x) g) n none (mOn (mZ A (ordZ z P 114 (A 6 (3 * k + 1)) (A 6 (3 * k + 2))) a') (upd w 2 x') g) n := by
  obtain ⟨N, n1, n9, e1, -⟩ := wnr_ok (z := z) (x := A 6 (3 * k + 1)) (by
    have q : wnr z (A 6 (3 * k + 1)) = 0 := ho
    rw [q]
    decide)
  rw [e1]
  rw [show ordZ z P 114 (nI N) (A 6 (3 * k + 2)) = (runZ P N z).2 by show (runZ P (nI N).toNatClampNeg z).2 = _; rw [nI_clamp (by omega)]]
  obtain ⟨a', x', g2⟩ := k_runNow d n A w g z a x P hP h2 h6 N n9
  refine ⟨a', x', ?_⟩
  refine Rn.steps 7 rfl ?_
  refine Rn.ialdN (m := 3 * k + 1) rfl rfl rfl ((by rw [← nI_1, ← x3t])) (by omega) (Nat.le_of_ble_eq_true rfl) ?_
  refine Rn.steps 6 rfl ?_
  refine Rn.ialdN (m := 3 * k) rfl rfl rfl (x3t k) (by omega) (Nat.le_of_ble_eq_true rfl) ?_
  rw [show mZ A z a 6 (3 * k) = 114 from hl]
  refine Rn.steps 1 rfl ?_
  refine Rn.steps 2 rfl ?_
  refine Rn.stk (st2 := [.int (nI N), .ref 139]) (by rw [← e1]; rfl) ?_
  refine Rn.call rfl rfl rfl g2 ?_
  refine Rn.steps 2 rfl ?_
  exact Rn.retE rfl rfl rfl rfl rfl
theorem k_do (z a : Nat → Int32) (x : Int32) (P : Nat) (hP : z 0 = nI P) (h2 : 2 ≤ P) (h6 : P ≤ 6) (k : Nat) (hk : k ≤ 39) (hl : isLe (A 6 (3 * k)) = true) (ho : ordW z (A 6 (3 * k)) (A 6 (3 * k + 1)) (A 6 (3 * k + 2)) = 0) : ∃ a' x', Rn (d + 5) 152 0 [(0, .ref 139), (1, .int (nI k))] [] (mOn (mZ A z a) (upd w 2 x) g) n none (mOn (mZ A (ordZ z P (A 6 (3 * k)) (A 6 (3 * k + 1)) (A 6 (3 * k + 2))) a') (upd w 2 x') g) n := by
  have h3 := hl
  unfold isLe at h3
  simp only [Bool.or_eq_true, decide_eq_true_eq] at h3
  rcases h3 with q | q | q | q | q | q <;> rw [q] at ho ⊢
  · exact k_do_c d n A w g z a x P hP h2 h6 k hk q ho
  · exact k_do_x d n A w g z a x P hP h2 h6 k hk q ho
  · exact k_do_r d n A w g z a x P hP h2 h6 k hk q ho
  · exact k_do_b d n A w g z a x P hP h2 h6 k hk q ho
  · exact k_do_k d n A w g z a x P hP h2 h6 k hk q ho
  · exact k_do_f d n A w g z a x P hP h2 h6 k hk q ho
theorem c_whyNot (hne : ¬ 2 * A 0 0 = 0) (k : Nat) (hk : k ≤ 39) (hl : isLe (A 6 (3 * k)) = true) : Rn (d + 5) 151 0 [(0, .ref 139), (1, .int (nI k))] [] (mOn A w g) n (some (.int (ordW (A 0) (A 6 (3 * k)) (A 6 (3 * k + 1)) (A 6 (3 * k + 2))))) (mOn A w g) n := by
  have h3 := hl
  unfold isLe at h3
  simp only [Bool.or_eq_true, decide_eq_true_eq] at h3
  rcases h3 with q | q | q | q | q | q
  · exact c_whyNot_c d n A w g hne k hk q
  · exact c_whyNot_o d n A w g k hk (Or.inl q)
  · exact c_whyNot_r d n A w g hne k hk q
  · exact c_whyNot_b d n A w g hne k hk q
  · exact c_whyNot_k d n A w g hne k hk q
  · exact c_whyNot_o d n A w g k hk (Or.inr q)
end MODEL9
end
section
/-! the reference: a whole text carried out; signs put on the pad -/
theorem upd_id {f : Nat → Int32} {k : Nat} : upd f k (f k) = f := by
  funext j
  unfold upd
  by_cases hj : j = k
  · rw [if_pos hj, hj]
  · rw [if_neg hj]
def coR (t : Nat → Int32) (P : Nat) : Nat → Nat → (Nat → Int32) → Nat × (Nat → Int32)
  | 0, k, z => (k, z)
  | r + 1, k, z => if ordW z (t (3 * k)) (t (3 * k + 1)) (t (3 * k + 2)) = 0 then coR t P r (k + 1) (ordZ z P (t (3 * k)) (t (3 * k + 1)) (t (3 * k + 2))) else (k, z)
/-- every order that was read has a letter -/
def tOk (t : Nat → Int32) (m : Nat) : Prop := ∀ j, j < m → isLe (t (3 * j)) = true
theorem roT_ok {p : Nat → Int32} {ty sp tm : Nat} {t : Nat → Int32} (hl : isLe (leF p ty sp) = true) (h : tOk t tm) : tOk (roT p ty sp tm t) (tm + 1) := by
  intro j hj
  unfold roT
  rw [hl]
  simp only [cond]
  by_cases q : j = tm
  · subst q
    rw [upd_ne (by omega), upd_ne (by omega), upd_eq]
    exact hl
  · rw [upd_ne (by omega), upd_ne (by omega), upd_ne (by omega)]
    exact h j (by omega)
theorem rpF_ok (p : Nat → Int32) (ty : Nat) : ∀ (r sp tm : Nat) (t : Nat → Int32), tOk t tm → (rpF p ty r sp tm t).1 = true → tOk (rpF p ty r sp tm t).2.2.2 (rpF p ty r sp tm t).2.2.1 ∧ (rpF p ty r sp tm t).2.2.1 ≤ tm + r := by
  intro r
  induction r with
  | zero => intro sp tm t h _; exact ⟨h, Nat.le_refl _⟩
  | succ r ih =>
    intro sp tm t h hg
    unfold rpF at hg ⊢
    by_cases hlt : sp < ty
    · rw [if_pos hlt] at hg ⊢
      cases hz : seF p ty sp 59 59 with
      | false => rw [hz] at hg; exact absurd (show false = true from hg) (by decide)
      | true =>
        rw [hz] at hg
        simp only [cond] at hg ⊢
        cases hb : roB p ty (sp + 1) with
        | false => rw [hb] at hg; exact absurd (show false = true from hg) (by decide)
        | true =>
          rw [hb] at hg
          simp only [cond] at hg ⊢
          have hl := (roB_adv hb).2.2
          have hm : roM p ty (sp + 1) tm = tm + 1 := by unfold roM; rw [hl]; rfl
          rw [hm] at hg ⊢
          have k1 := ih _ _ _ (roT_ok hl h) hg
          exact ⟨k1.1, by have := k1.2; omega⟩
    · rw [if_neg hlt]
      exact ⟨h, by show tm ≤ tm + (r + 1); omega⟩
theorem rdF_ok {p : Nat → Int32} {ty : Nat} {t : Nat → Int32} (hg : (rdF p ty t).1 = true) : tOk (rdF p ty t).2.2.2 (rdF p ty t).2.2.1 ∧ (rdF p ty t).2.2.1 ≤ 28 := by
  unfold rdF at hg ⊢
  cases hb : roB p ty 0 with
  | false => rw [hb] at hg; exact absurd (show false = true from hg) (by decide)
  | true =>
    rw [hb] at hg
    simp only [cond] at hg ⊢
    have hl := (roB_adv hb).2.2
    have hm : roM p ty 0 0 = 1 := by unfold roM; rw [hl]; rfl
    rw [hm] at hg ⊢
    have k1 := rpF_ok p ty 27 _ _ _ (roT_ok (tm := 0) hl (fun j hj => absurd hj (Nat.not_lt_zero _))) hg
    exact ⟨k1.1, k1.2⟩
section MODEL10
variable (d n : Nat) (A : Nat → Nat → Int32) (w : Nat → Int32) (g h : xHp) (ty : Nat)
theorem k_coL (tm : Nat) (hw : w 4 = nI tm) (htm : tm ≤ 39) (ht : tOk (A 6) tm) (P : Nat) (h2 : 2 ≤ P) (h6 : P ≤ 6) : ∀ (r k : Nat) (z a : Nat → Int32) (x : Int32), k + r = tm → z 0 = nI P → ∃ a' x', Rn (d + 6) 153 16 [(0, .ref 139), (1, .int (nI k))] [] (mOn (mZ A z a) (upd w 2 x) g) n (some (.int (nI (coR (A 6) P r k z).1))) (mOn (mZ A (coR (A 6) P r k z).2 a') (upd (upd w 2 x') 1 0) g) n := by
  intro r
  induction r with
  | zero =>
    intro k z a x hk hz
    refine ⟨a, x, ?_⟩
    have hk2 : k = tm := hk
    refine Rn.br 4 rfl (fun hc21 => ?_) (fun hc21 => ?_)
    · refine Rn.steps 3 rfl ?_
      refine Rn.heap mOn_w1 ?_
      refine Rn.steps 1 rfl ?_
      exact Rn.retE rfl rfl rfl rfl rfl
    · exact (hc21 (by show w 4 ≤ nI k; rw [hw, hk2]; exact nI_le (Nat.le_refl _) (by omega))).elim
  | succ r ih =>
    intro k z a x hk hz
    by_cases h0 : ordW z (A 6 (3 * k)) (A 6 (3 * k + 1)) (A 6 (3 * k + 2)) = 0
    · rw [show coR (A 6) P (r + 1) k z = coR (A 6) P r (k + 1) (ordZ z P (A 6 (3 * k)) (A 6 (3 * k + 1)) (A 6 (3 * k + 2))) by rw [coR, if_pos h0]]
      obtain ⟨a1, x1, g1⟩ := k_do d n A w g z a x P hz h2 h6 k (by omega) (ht k (by omega)) h0
      obtain ⟨a2, x2, g2⟩ := ih (k + 1) (ordZ z P (A 6 (3 * k)) (A 6 (3 * k + 1)) (A 6 (3 * k + 2))) a1 x1 (by omega) (by rw [ordZ_0]; exact hz)
      refine ⟨a2, x2, ?_⟩
      refine Rn.br 4 rfl (fun hc21 => ?_) (fun hc21 => ?_)
      · exact (nI_ge (show k < tm by omega) (by omega) (by rw [← hw]; exact hc21)).elim
      · refine Rn.steps 2 rfl ?_
        refine Rn.call rfl rfl rfl (c_whyNot d n (mZ A z a) (upd w 2 x) g (by show ¬ 2 * z 0 = 0; exact x2ne hz h2 h6) k (by omega) (ht k (by omega))) ?_
        refine Rn.br 1 rfl (fun hc29 => ?_) (fun hc29 => ?_)
        · refine Rn.steps 2 rfl ?_
          refine Rn.call rfl rfl rfl g1 ?_
          refine Rn.steps 2 rfl ?_
          exact Rn.l2 rfl rfl (by rw [← nI_1]; rfl) g2
        · exact (hc29 h0).elim
    · rw [show coR (A 6) P (r + 1) k z = (k, z) by rw [coR, if_neg h0]]
      refine ⟨a, x, ?_⟩
      refine Rn.br 4 rfl (fun hc21 => ?_) (fun hc21 => ?_)
      · exact (nI_ge (show k < tm by omega) (by omega) (by rw [← hw]; exact hc21)).elim
      · refine Rn.steps 2 rfl ?_
        refine Rn.call rfl rfl rfl (c_whyNot d n (mZ A z a) (upd w 2 x) g (by show ¬ 2 * z 0 = 0; exact x2ne hz h2 h6) k (by omega) (ht k (by omega))) ?_
        refine Rn.br 1 rfl (fun hc29 => ?_) (fun hc29 => ?_)
        · exact (h0 hc29).elim
        · refine Rn.steps 3 rfl ?_
          refine Rn.heap mOn_w1 ?_
          refine Rn.steps 1 rfl ?_
          exact Rn.retE rfl rfl rfl rfl rfl
theorem c_carryOut_bad (hty : w 1 = nI ty) (ht8 : ty ≤ 80) (hb : (rdF (A 4) ty (A 6)).1 = false) : Rn (d + 6) 153 0 [(0, .ref 139)] [] (mOn A w g) n (some (.int (-3))) (mOn (va_up A 6 (rdF (A 4) ty (A 6)).2.2.2) (wT w (rdF (A 4) ty (A 6)).2.1 (rdF (A 4) ty (A 6)).2.2.1) g) n := by
  refine Rn.steps 1 rfl ?_
  refine Rn.call rfl rfl rfl (c_readPad (d + 1) n A w g ty hty ht8) ?_
  rw [hb]
  refine Rn.steps 2 rfl ?_
  exact Rn.retE rfl rfl rfl rfl rfl
theorem c_carryOut (hty : w 1 = nI ty) (ht8 : ty ≤ 80) (hb : (rdF (A 4) ty (A 6)).1 = true) (s : Nat) (hs : w 0 = nI s) (s6 : s ≤ 6) (P : Nat) (hP : A 0 0 = nI P) (h2 : 2 ≤ P) (h6 : P ≤ 6) : ∃ a' x', Rn (d + 6) 153 0 [(0, .ref 139)] [] (mOn A w g) n (some (.int (nI (coR (rdF (A 4) ty (A 6)).2.2.2 P (rdF (A 4) ty (A 6)).2.2.1 0 (A 0)).1))) (mOn (mZ (rA (va_up A 6 (rdF (A 4) ty (A 6)).2.2.2) s) (coR (rdF (A 4) ty (A 6)).2.2.2 P (rdF (A 4) ty (A 6)).2.2.1 0 (A 0)).2 a') (upd (upd (rW (wT w (rdF (A 4) ty (A 6)).2.1 (rdF (A 4) ty (A 6)).2.2.1) s) 2 x') 1 0) g) n := by
  obtain ⟨o1, o2⟩ := rdF_ok hb
  generalize hR : rdF (A 4) ty (A 6) = R at *
  obtain ⟨a', x', g1⟩ := k_coL d n (rA (va_up A 6 R.2.2.2) s) (rW (wT w R.2.1 R.2.2.1) s) g R.2.2.1 rfl (by omega) o1 P h2 h6 R.2.2.1 0 (A 0) (A 5) (w 2) (by omega) hP
  refine ⟨a', x', ?_⟩
  have k1 := c_readPad (d + 1) n A w g ty hty ht8
  rw [hR] at k1
  rw [hb] at k1
  refine Rn.steps 1 rfl ?_
  refine Rn.call rfl rfl rfl k1 ?_
  refine Rn.steps 2 rfl ?_
  refine Rn.call rfl rfl rfl (c_record (d + 4) n (va_up A 6 R.2.2.2) (wT w R.2.1 R.2.2.1) g s hs s6) ?_
  refine Rn.steps 2 rfl ?_
  refine Rn.l2 (a := 0) (b := 1) (x := .ref 139) (y := .int (nI 0)) rfl rfl rfl ?_
  refine Rn.heap (h2 := mOn (mZ (rA (va_up A 6 R.2.2.2) s) (A 0) (A 5)) (upd (rW (wT w R.2.1 R.2.2.1) s) 2 (w 2)) g) ?_ g1
  show _ = mOn (mZ (rA (va_up A 6 R.2.2.2) s) (rA (va_up A 6 R.2.2.2) s 0) (rA (va_up A 6 R.2.2.2) s 5)) (upd (rW (wT w R.2.1 R.2.2.1) s) 2 (rW (wT w R.2.1 R.2.2.1) s 2)) g
  rw [mZ_self, upd_id]
  rfl
end MODEL10
end
section
/-! the class's motion: what its methods answer -/
theorem lg0 {x y : Int64} : lg_cmp x y = 0 ↔ x = y := by
  unfold lg_cmp
  by_cases h : x = y
  · subst h
    rw [if_neg (by simp [Int64.lt_iff_toInt_lt]), if_pos rfl]
    exact ⟨fun _ => rfl, fun _ => rfl⟩
  · constructor
    · intro q
      by_cases g : x > y
      · rw [if_pos g] at q; exact absurd q (by decide)
      · rw [if_neg g, if_neg h] at q; exact absurd q (by decide)
    · intro q; exact (h q).elim
theorem lsw2 {a b o1 o2 df k : Int} (ha : ¬ a = k) (hb : ¬ b = k) : Op.lookupswitch.offset [(a, o1), (b, o2)] df k = df := by
  rw [Op.lookupswitch.offset_cons, if_neg ha, Op.lookupswitch.offset_cons, if_neg hb]
  rfl
theorem tI_ne {x y : Int32} (h : ¬ x = y) : ¬ y.toInt = x.toInt := fun q => h (Int32.toInt_inj.mp q.symm)
def shl (x : Int64) (k : Int32) : Int64 := x <<< (k.toInt64 &&& 63)
def shr (x : Int64) (k : Int32) : Int64 := (x.toUInt64 >>> (k.toInt64.toUInt64 &&& Int64.toUInt64 63)).toInt64
def aT (x : Int64) : Int64 := (shl (x &&& 16557351571215 &&& (-150119987579017)) 1 ||| shr (x &&& 16557351571215 &&& 150119987579016) 3) ||| (shr (x &&& 264917625139440 &&& (-18764998447378)) 1 ||| shl (x &&& 264917625139440 &&& 18764998447377) 3)
def nx (x : Int64) (hn : Int32) : Int64 := (shl x 6 ||| shr x (4 * hn - 6)) &&& (shl 1 (4 * hn) - 1)
def bk (x : Int64) (hn : Int32) : Int64 := (shr x 6 ||| shl x (4 * hn - 6)) &&& (shl 1 (4 * hn) - 1)
def aP (x : Int64) (hn : Int32) : Int64 := (x &&& (-93824992236886) ||| nx (x &&& 18764998447377) hn) ||| bk (x &&& 75059993789508) hn
def mts (x : Int64) (hn : Int32) : Int64 := x &&& 18764998447377 &&& bk (x &&& 75059993789508) hn
def bSt (x : Int64) (hn : Int32) : Int64 := if mts (aT x) hn = 0 then aP (aT x) hn else -1
def pF (hn p : Int32) : Int32 := if rm p 4 = 0 then (if 4 * hn ≤ p + 6 then p + 6 - 4 * hn else p + 6) else if rm p 4 = 2 then (if p < 6 then p - 6 + 4 * hn else p - 6) else p
def guF (p : Int32) : Bool := decide (rm p 4 = 2) || decide (rm p 4 = (if rm (p / 4) 2 = 0 then 3 else 1))
def fM (x : Int64) (hn : Int32) : Nat → Nat → Int64 → Int32
  | 0, _, _ => -6
  | r + 1, k, now => if bSt now hn = -1 then nI k else if bSt now hn = x then -6 else fM x hn r (k + 1) (bSt now hn)
def fR (x : Int64) (hn : Int32) : Nat → Nat → Int64 → Int32
  | 0, _, _ => -6
  | r + 1, k, now => if bSt now hn = -1 then -6 else if bSt now hn = x then nI k else fR x hn r (k + 1) (bSt now hn)
def bIt (hn : Int32) : Nat → Int64 → Int64 | 0, x => x | k + 1, x => bIt hn k (bSt x hn)
def mcF (met : Int64) : Nat → Nat → Int32 | 0, _ => -6 | r + 1, c => if shr met (4 * nI c) &&& 1 = 0 then mcF met r (c + 1) else nI c
def fitsF (x : Int64) (hn p : Int32) : Bool := decide (x &&& (shl 1 p ||| shl 1 (pF hn p)) = 0)
def sfF (x : Int64) (hn p : Int32) : Bool := fitsF x hn p && decide (fM (x ||| shl 1 p) hn 100 1 (x ||| shl 1 p) = -6)
section CLASS1
variable (d n : Nat) (g h : xHp)
theorem m_turned (p : Int32) : Rn d 3 0 [(0, .int p)] [] h n (some (.int (t32 p))) h n := by
  refine Rn.br 8 rfl (fun hc7 => ?_) (fun hc7 => ?_)
  · refine Rn.steps 12 rfl ?_
    exact Rn.retE rfl rfl rfl (by unfold t32; rw [show rm (p / 4) 2 = p / 4 - p / 4 / 2 * 2 from rfl]; first | (rw [if_pos hc7]; rfl) | (rw [if_neg hc7]; rfl)) rfl
  · refine Rn.steps 11 rfl ?_
    exact Rn.retE rfl rfl rfl (by unfold t32; rw [show rm (p / 4) 2 = p / 4 - p / 4 / 2 * 2 from rfl]; first | (rw [if_pos hc7]; rfl) | (rw [if_neg hc7]; rfl)) rfl
theorem m_passed (p hn : Int32) : Rn d 4 0 [(0, .int p), (1, .int hn)] [] h n (some (.int (pF hn p))) h n := by
  by_cases q0 : rm p 4 = 0
  · refine Rn.steps 7 rfl ?_
    refine Rn.lsw rfl rfl (off := 25) (by show Op.lookupswitch.offset _ _ (rm p 4).toInt = _; rw [q0]; rfl) 32 rfl ?_
    refine Rn.br 5 rfl (fun hc37 => ?_) (fun hc37 => ?_)
    · refine Rn.steps 5 rfl ?_
      exact Rn.retE rfl rfl rfl (by unfold pF; rw [if_pos q0]; first | (rw [if_pos hc37]) | (rw [if_neg hc37])) rfl
    · refine Rn.steps 4 rfl ?_
      exact Rn.retE rfl rfl rfl (by unfold pF; rw [if_pos q0]; first | (rw [if_pos hc37]) | (rw [if_neg hc37])) rfl
  · by_cases q2 : rm p 4 = 2
    · refine Rn.steps 7 rfl ?_
      refine Rn.lsw rfl rfl (off := 47) (by show Op.lookupswitch.offset _ _ (rm p 4).toInt = _; rw [q2]; rfl) 54 rfl ?_
      refine Rn.br 3 rfl (fun hc57 => ?_) (fun hc57 => ?_)
      · refine Rn.steps 5 rfl ?_
        exact Rn.retE rfl rfl rfl (by unfold pF; rw [if_neg q0, if_pos q2]; first | (rw [if_pos hc57]) | (rw [if_neg hc57])) rfl
      · refine Rn.steps 4 rfl ?_
        exact Rn.retE rfl rfl rfl (by unfold pF; rw [if_neg q0, if_pos q2]; first | (rw [if_pos hc57]) | (rw [if_neg hc57])) rfl
    · refine Rn.steps 7 rfl ?_
      refine Rn.lsw rfl rfl (off := 67) (lsw2 (tI_ne (y := 0) q0) (tI_ne (y := 2) q2)) 74 rfl ?_
      refine Rn.steps 1 rfl ?_
      exact Rn.retE rfl rfl rfl (by unfold pF; rw [if_neg q0, if_neg q2]) rfl
theorem m_goesUp (p : Int32) : Rn d 6 0 [(0, .int p)] [] h n (some (.int (bi (guF p)))) h n := by
  by_cases q0 : rm (p / 4) 2 = 0
  · refine Rn.br 10 rfl (fun hc9 => ?_) (fun hc9 => ?_)
    · refine Rn.br 6 rfl (fun hc20 => ?_) (fun hc20 => ?_)
      · refine Rn.steps 2 rfl ?_
        exact Rn.retE rfl rfl rfl (by unfold guF; rw [decide_eq_true (show rm p 4 = 2 from hc20)]; try rfl) rfl
      · refine Rn.br 6 rfl (fun hc33 => ?_) (fun hc33 => ?_)
        · refine Rn.steps 2 rfl ?_
          exact Rn.retE rfl rfl rfl (by unfold guF; rw [if_pos q0, decide_eq_true (show rm p 4 = 3 from hc33), Bool.or_true]; rfl) rfl
        · refine Rn.steps 1 rfl ?_
          exact Rn.retE rfl rfl rfl (by unfold guF; rw [if_pos q0, decide_eq_false (show ¬ rm p 4 = 3 from hc33), decide_eq_false (show ¬ rm p 4 = 2 from hc20)]; rfl) rfl
    · exact (hc9 q0).elim
  · refine Rn.br 10 rfl (fun hc9 => ?_) (fun hc9 => ?_)
    · exact (q0 hc9).elim
    · refine Rn.br 5 rfl (fun hc20 => ?_) (fun hc20 => ?_)
      · refine Rn.steps 2 rfl ?_
        exact Rn.retE rfl rfl rfl (by unfold guF; rw [decide_eq_true (show rm p 4 = 2 from hc20)]; try rfl) rfl
      · refine Rn.br 5 rfl (fun hc33 => ?_) (fun hc33 => ?_)
        · refine Rn.steps 2 rfl ?_
          exact Rn.retE rfl rfl rfl (by unfold guF; rw [if_neg q0, decide_eq_true (show rm p 4 = 1 from hc33), Bool.or_true]; rfl) rfl
        · refine Rn.steps 1 rfl ?_
          exact Rn.retE rfl rfl rfl (by unfold guF; rw [if_neg q0, decide_eq_false (show ¬ rm p 4 = 1 from hc33), decide_eq_false (show ¬ rm p 4 = 2 from hc20)]; rfl) rfl
theorem m_allTurned (x : Int64) : Rn d 8 0 [(0, .long x)] [] h n (some (.long (aT x))) h n := by
  refine Rn.steps 35 rfl ?_
  exact Rn.retE rfl rfl rfl rfl rfl
theorem m_nx (x : Int64) (hn : Int32) : Rn d 9 0 [(0, .long x), (2, .int hn)] [] h n (some (.long (nx x hn))) h n := by
  refine Rn.steps 19 rfl ?_
  exact Rn.retE rfl rfl rfl rfl rfl
theorem m_bk (x : Int64) (hn : Int32) : Rn d 10 0 [(0, .long x), (2, .int hn)] [] h n (some (.long (bk x hn))) h n := by
  refine Rn.steps 19 rfl ?_
  exact Rn.retE rfl rfl rfl rfl rfl
theorem m_allPassed (x : Int64) (hn : Int32) : Rn (d + 1) 11 0 [(0, .long x), (2, .int hn)] [] h n (some (.long (aP x hn))) h n := by
  refine Rn.steps 7 rfl ?_
  refine Rn.call rfl rfl rfl (m_nx d n _ _ _) ?_
  refine Rn.steps 5 rfl ?_
  refine Rn.call rfl rfl rfl (m_bk d n _ _ _) ?_
  refine Rn.steps 1 rfl ?_
  exact Rn.retE rfl rfl rfl rfl rfl
theorem m_meetings (x : Int64) (hn : Int32) : Rn (d + 1) 12 0 [(0, .long x), (2, .int hn)] [] h n (some (.long (mts x hn))) h n := by
  refine Rn.steps 7 rfl ?_
  refine Rn.call rfl rfl rfl (m_bk d n _ _ _) ?_
  refine Rn.steps 1 rfl ?_
  exact Rn.retE rfl rfl rfl rfl rfl
theorem m_step (x : Int64) (hn : Int32) : Rn (d + 2) 13 0 [(0, .long x), (2, .int hn)] [] h n (some (.long (bSt x hn))) h n := by
  refine Rn.steps 1 rfl ?_
  refine Rn.call rfl rfl rfl (m_allTurned (d + 1) n _ _) ?_
  refine Rn.steps 3 rfl ?_
  refine Rn.call rfl rfl rfl (m_meetings d n _ _ _) ?_
  refine Rn.br 3 rfl (fun hc12 => ?_) (fun hc12 => ?_)
  · refine Rn.steps 2 rfl ?_
    refine Rn.call rfl rfl rfl (m_allPassed d n _ _ _) ?_
    exact Rn.retE rfl rfl rfl (by unfold bSt; first | (rw [if_pos (lg0.mp hc12)]) | (rw [if_neg (fun q => hc12 (lg0.mpr q))])) rfl
  · refine Rn.steps 2 rfl ?_
    exact Rn.retE rfl rfl rfl (by unfold bSt; first | (rw [if_pos (lg0.mp hc12)]) | (rw [if_neg (fun q => hc12 (lg0.mpr q))])) rfl
theorem m_fM (x : Int64) (hn : Int32) (L : Nat) (hL : L ≤ 2000) : Rn (d + 3) 14 0 [(0, .long x), (2, .int hn), (3, .int (nI L))] [] h n (some (.int (fM x hn L 1 x))) h n := by
  have key : ∀ r k now, k + r = L + 1 → Rn (d + 3) 14 6 [(0, .long x), (2, .int hn), (3, .int (nI L)), (4, .long now), (6, .int (nI k))] [] h n (some (.int (fM x hn r k now))) h n := by
    intro r
    induction r with
    | zero =>
      intro k now hk
      refine Rn.br 3 rfl (fun hc9 => ?_) (fun hc9 => ?_)
      · refine Rn.steps 1 rfl ?_
        exact Rn.retE rfl rfl rfl rfl rfl
      · exact (hc9 (nI_lt (show L < k by omega) (by omega))).elim
    | succ r ih =>
      intro k now hk
      refine Rn.br 3 rfl (fun hc9 => ?_) (fun hc9 => ?_)
      · exact (Int32.not_lt.mpr (nI_le (show k ≤ L by omega) (by omega)) hc9).elim
      · refine Rn.steps 2 rfl ?_
        refine Rn.call rfl rfl rfl (m_step d n _ _ _) ?_
        refine Rn.br 5 rfl (fun hc26 => ?_) (fun hc26 => ?_)
        · rw [show fM x hn (r + 1) k now = nI k by rw [fM, if_pos (lg0.mp hc26)]]
          refine Rn.steps 1 rfl ?_
          exact Rn.retE rfl rfl rfl rfl rfl
        · refine Rn.br 4 rfl (fun hc36 => ?_) (fun hc36 => ?_)
          · rw [show fM x hn (r + 1) k now = -6 by rw [fM, if_neg (fun q => hc26 (lg0.mpr q)), if_pos (lg0.mp hc36)]]
            refine Rn.steps 1 rfl ?_
            exact Rn.retE rfl rfl rfl rfl rfl
          · rw [show fM x hn (r + 1) k now = fM x hn r (k + 1) (bSt now hn) by rw [fM, if_neg (fun q => hc26 (lg0.mpr q)), if_neg (fun q => hc36 (lg0.mpr q))]]
            refine Rn.steps 2 rfl ?_
            exact Rn.l5 (by decide) rfl rfl rfl rfl (by rw [← nI_1]; rfl) (ih (k + 1) _ (by omega))
  refine Rn.steps 4 rfl ?_
  exact Rn.l5 (by decide) rfl rfl rfl rfl rfl (key L 1 x (by omega))
theorem m_fR (x : Int64) (hn : Int32) : Rn (d + 3) 16 0 [(0, .long x), (2, .int hn)] [] h n (some (.int (fR x hn 100 1 x))) h n := by
  have key : ∀ r k now, k + r = 100 + 1 → Rn (d + 3) 16 5 [(0, .long x), (2, .int hn), (3, .long now), (5, .int (nI k))] [] h n (some (.int (fR x hn r k now))) h n := by
    intro r
    induction r with
    | zero =>
      intro k now hk
      refine Rn.br 3 rfl (fun hc9 => ?_) (fun hc9 => ?_)
      · refine Rn.steps 1 rfl ?_
        exact Rn.retE rfl rfl rfl rfl rfl
      · exact (hc9 (nI_lt (show 100 < k by omega) (by omega))).elim
    | succ r ih =>
      intro k now hk
      refine Rn.br 3 rfl (fun hc9 => ?_) (fun hc9 => ?_)
      · exact (Int32.not_lt.mpr (nI_le (show k ≤ 100 by omega) (by omega)) hc9).elim
      · refine Rn.steps 2 rfl ?_
        refine Rn.call rfl rfl rfl (m_step d n _ _ _) ?_
        refine Rn.br 5 rfl (fun hc23 => ?_) (fun hc23 => ?_)
        · rw [show fR x hn (r + 1) k now = -6 by rw [fR, if_pos (lg0.mp hc23)]]
          refine Rn.steps 1 rfl ?_
          exact Rn.retE rfl rfl rfl rfl rfl
        · refine Rn.br 4 rfl (fun hc32 => ?_) (fun hc32 => ?_)
          · rw [show fR x hn (r + 1) k now = nI k by rw [fR, if_neg (fun q => hc23 (lg0.mpr q)), if_pos (lg0.mp hc32)]]
            refine Rn.steps 1 rfl ?_
            exact Rn.retE rfl rfl rfl rfl rfl
          · rw [show fR x hn (r + 1) k now = fR x hn r (k + 1) (bSt now hn) by rw [fR, if_neg (fun q => hc23 (lg0.mpr q)), if_neg (fun q => hc32 (lg0.mpr q))]]
            refine Rn.steps 2 rfl ?_
            exact Rn.l4 (by decide) rfl rfl rfl (by rw [← nI_1]; rfl) (ih (k + 1) _ (by omega))
  refine Rn.steps 4 rfl ?_
  exact Rn.l4 (by decide) rfl rfl rfl rfl (key 100 1 x (by omega))
theorem m_mC (x : Int64) (H L : Nat) (hH : H ≤ 100) (hL : L ≤ 2000) : Rn (d + 3) 15 0 [(0, .long x), (2, .int (nI H)), (3, .int (nI (L + 1)))] [] h n (some (.int (mcF (mts (aT (bIt (nI H) L x)) (nI H)) H 0))) h n := by
  have key2 : ∀ met r c, c + r = H → Rn (d + 3) 15 40 [(2, .int (nI H)), (6, .long met), (8, .int (nI c))] [] h n (some (.int (mcF met r c))) h n := by
    intro met r
    induction r with
    | zero =>
      intro c hk
      refine Rn.br 3 rfl (fun hc43 => ?_) (fun hc43 => ?_)
      · refine Rn.steps 1 rfl ?_
        exact Rn.retE rfl rfl rfl rfl rfl
      · exact (hc43 (nI_le (show H ≤ c by omega) (by omega))).elim
    | succ r ih =>
      intro c hk
      refine Rn.br 3 rfl (fun hc43 => ?_) (fun hc43 => ?_)
      · exact (nI_ge (show c < H by omega) (by omega) hc43).elim
      · refine Rn.br 10 rfl (fun hc57 => ?_) (fun hc57 => ?_)
        · rw [show mcF met (r + 1) c = mcF met r (c + 1) by rw [mcF, if_pos (show shr met (4 * nI c) &&& 1 = 0 from lg0.mp hc57)]]
          refine Rn.steps 2 rfl ?_
          exact Rn.l3 rfl rfl rfl (by rw [← nI_1]; rfl) (ih (c + 1) (by omega))
        · rw [show mcF met (r + 1) c = nI c by rw [mcF, if_neg (show ¬ shr met (4 * nI c) &&& 1 = 0 from fun q => hc57 (lg0.mpr q))]]
          refine Rn.steps 1 rfl ?_
          exact Rn.retE rfl rfl rfl rfl rfl
  have key : ∀ r k now, k + r = L + 1 → Rn (d + 3) 15 6 [(2, .int (nI H)), (3, .int (nI (L + 1))), (4, .long now), (6, .int (nI k))] [] h n (some (.int (mcF (mts (aT (bIt (nI H) r now)) (nI H)) H 0))) h n := by
    intro r
    induction r with
    | zero =>
      intro k now hk
      refine Rn.br 3 rfl (fun hc9 => ?_) (fun hc9 => ?_)
      · refine Rn.steps 1 rfl ?_
        refine Rn.call rfl rfl rfl (m_allTurned (d + 2) n _ _) ?_
        refine Rn.steps 1 rfl ?_
        refine Rn.call rfl rfl rfl (m_meetings (d + 1) n _ _ _) ?_
        refine Rn.steps 3 rfl ?_
        exact Rn.l3 rfl rfl rfl rfl (key2 _ H 0 (by omega))
      · exact (hc9 (nI_le (show L + 1 ≤ k by omega) (by omega))).elim
    | succ r ih =>
      intro k now hk
      refine Rn.br 3 rfl (fun hc9 => ?_) (fun hc9 => ?_)
      · exact (nI_ge (show k < L + 1 by omega) (by omega) hc9).elim
      · refine Rn.steps 2 rfl ?_
        refine Rn.call rfl rfl rfl (m_step d n _ _ _) ?_
        refine Rn.steps 3 rfl ?_
        exact Rn.l4 (by decide) rfl rfl rfl (by rw [← nI_1 k]; rfl) (ih (k + 1) _ (by omega))
  refine Rn.steps 4 rfl ?_
  exact Rn.l4 (by decide) rfl rfl rfl rfl (key L 1 x (by omega))
theorem m_fits (x : Int64) (hn p : Int32) : Rn (d + 1) 17 0 [(0, .long x), (2, .int hn), (3, .int p)] [] h n (some (.int (bi (fitsF x hn p)))) h n := by
  refine Rn.steps 7 rfl ?_
  refine Rn.call rfl rfl rfl (m_passed d n _ _ _) ?_
  refine Rn.br 6 rfl (fun hc15 => ?_) (fun hc15 => ?_)
  · refine Rn.steps 2 rfl ?_
    exact Rn.retE rfl rfl rfl (by unfold fitsF; first | (rw [decide_eq_true (show x &&& (shl 1 p ||| shl 1 (pF hn p)) = 0 from lg0.mp hc15)]; rfl) | (rw [decide_eq_false (show ¬ x &&& (shl 1 p ||| shl 1 (pF hn p)) = 0 from fun q => hc15 (lg0.mpr q))]; rfl)) rfl
  · refine Rn.steps 1 rfl ?_
    exact Rn.retE rfl rfl rfl (by unfold fitsF; first | (rw [decide_eq_true (show x &&& (shl 1 p ||| shl 1 (pF hn p)) = 0 from lg0.mp hc15)]; rfl) | (rw [decide_eq_false (show ¬ x &&& (shl 1 p ||| shl 1 (pF hn p)) = 0 from fun q => hc15 (lg0.mpr q))]; rfl)) rfl
theorem m_sf (x : Int64) (hn p : Int32) : Rn (d + 4) 18 0 [(0, .long x), (2, .int hn), (3, .int p)] [] h n (some (.int (bi (sfF x hn p)))) h n := by
  refine Rn.steps 3 rfl ?_
  refine Rn.call rfl rfl rfl (m_fits (d + 2) n _ _ _ _) ?_
  refine Rn.br 1 rfl (fun hc6 => ?_) (fun hc6 => ?_)
  · have hz := bi_eq0 hc6
    refine Rn.steps 1 rfl ?_
    exact Rn.retE rfl rfl rfl (by unfold sfF; rw [hz]; first | rfl | (rw [hy]; rfl)) rfl
  · have hz := bi_ne0 hc6
    refine Rn.steps 7 rfl ?_
    refine Rn.call rfl rfl rfl (m_fM d n _ _ _ 100 (by omega)) ?_
    refine Rn.br 2 rfl (fun hc22 => ?_) (fun hc22 => ?_)
    · have hy := decide_eq_true (show fM (x ||| shl 1 p) hn 100 1 (x ||| shl 1 p) = -6 from hc22)
      refine Rn.steps 2 rfl ?_
      exact Rn.retE rfl rfl rfl (by unfold sfF; rw [hz]; first | rfl | (rw [hy]; rfl)) rfl
    · have hy := decide_eq_false (show ¬ fM (x ||| shl 1 p) hn 100 1 (x ||| shl 1 p) = -6 from hc22)
      refine Rn.steps 1 rfl ?_
      exact Rn.retE rfl rfl rfl (by unfold sfF; rw [hz]; first | rfl | (rw [hy]; rfl)) rfl
end CLASS1
end
