section
-- the tables' words; the multianewarray row; names
/-- a private method of a class that the tables say can be made, by its rows of tables_1 -/
def lw_okq (q : MethodName × Nat) : Prop := (q.1.cls ≠ "java/lang/invoke/MethodHandle" ∧ q.1.cls ≠ "java/lang/invoke/VarHandle") ∧ Cond.instantiable q.1.cls q.2 ∈ tables_1 ∧ Cond.privateMethod q.1 ∈ tables_1 ∧ Cond.instanceMethod q.1 ∈ tables_1
theorem lw_p0 : lw_okq (⟨"SevenPlates$Table", "asAtFirst", "(I)V"⟩, 12) := ⟨⟨by decide +kernel, by decide +kernel⟩, List.mem_of_getElem? (i := 24) (by decide +kernel), List.mem_of_getElem? (i := 30) (by decide +kernel), List.mem_of_getElem? (i := 31) (by decide +kernel)⟩
theorem lw_p1 : lw_okq (⟨"SevenPlates$Table", "hasThing", "(I)Z"⟩, 12) := ⟨⟨by decide +kernel, by decide +kernel⟩, List.mem_of_getElem? (i := 24) (by decide +kernel), List.mem_of_getElem? (i := 334) (by decide +kernel), List.mem_of_getElem? (i := 335) (by decide +kernel)⟩
theorem lw_p2 : lw_okq (⟨"SevenPlates$Table", "ofThing", "(II)I"⟩, 12) := ⟨⟨by decide +kernel, by decide +kernel⟩, List.mem_of_getElem? (i := 24) (by decide +kernel), List.mem_of_getElem? (i := 338) (by decide +kernel), List.mem_of_getElem? (i := 339) (by decide +kernel)⟩
theorem lw_p3 : lw_okq (⟨"SevenPlates$Table", "change", "(III)V"⟩, 12) := ⟨⟨by decide +kernel, by decide +kernel⟩, List.mem_of_getElem? (i := 24) (by decide +kernel), List.mem_of_getElem? (i := 342) (by decide +kernel), List.mem_of_getElem? (i := 343) (by decide +kernel)⟩
theorem lw_p4 : lw_okq (⟨"SevenPlates$Table", "welcome", "(IIIII)V"⟩, 12) := ⟨⟨by decide +kernel, by decide +kernel⟩, List.mem_of_getElem? (i := 24) (by decide +kernel), List.mem_of_getElem? (i := 350) (by decide +kernel), List.mem_of_getElem? (i := 351) (by decide +kernel)⟩
theorem lw_p5 : lw_okq (⟨"SevenPlates$Table", "hasGuest", "(I)Z"⟩, 12) := ⟨⟨by decide +kernel, by decide +kernel⟩, List.mem_of_getElem? (i := 24) (by decide +kernel), List.mem_of_getElem? (i := 364) (by decide +kernel), List.mem_of_getElem? (i := 365) (by decide +kernel)⟩
theorem lw_p6 : lw_okq (⟨"SevenPlates$Pad", "add", "(I)I"⟩, 2) := ⟨⟨by decide +kernel, by decide +kernel⟩, List.mem_of_getElem? (i := 97) (by decide +kernel), List.mem_of_getElem? (i := 372) (by decide +kernel), List.mem_of_getElem? (i := 373) (by decide +kernel)⟩
theorem lw_p7 : lw_okq (⟨"SevenPlates$Pad", "firstFault", "(I)I"⟩, 2) := ⟨⟨by decide +kernel, by decide +kernel⟩, List.mem_of_getElem? (i := 97) (by decide +kernel), List.mem_of_getElem? (i := 384) (by decide +kernel), List.mem_of_getElem? (i := 385) (by decide +kernel)⟩
theorem lw_p8 : lw_okq (⟨"SevenPlates", "runEvening", "()I"⟩, 10) := ⟨⟨by decide +kernel, by decide +kernel⟩, List.mem_of_getElem? (i := 16) (by decide +kernel), List.mem_of_getElem? (i := 398) (by decide +kernel), List.mem_of_getElem? (i := 399) (by decide +kernel)⟩
theorem lw_p9 : lw_okq (⟨"SevenPlates$Evening", "run", "(LSevenPlates$Pad;)V"⟩, 11) := ⟨⟨by decide +kernel, by decide +kernel⟩, List.mem_of_getElem? (i := 142) (by decide +kernel), List.mem_of_getElem? (i := 402) (by decide +kernel), List.mem_of_getElem? (i := 403) (by decide +kernel)⟩
theorem lw_p10 : lw_okq (⟨"SevenPlates$Evening", "begin", "()V"⟩, 11) := ⟨⟨by decide +kernel, by decide +kernel⟩, List.mem_of_getElem? (i := 142) (by decide +kernel), List.mem_of_getElem? (i := 406) (by decide +kernel), List.mem_of_getElem? (i := 407) (by decide +kernel)⟩
theorem lw_p11 : lw_okq (⟨"SevenPlates$Course", "begin", "()V"⟩, 4) := ⟨⟨by decide +kernel, by decide +kernel⟩, List.mem_of_getElem? (i := 114) (by decide +kernel), List.mem_of_getElem? (i := 410) (by decide +kernel), List.mem_of_getElem? (i := 411) (by decide +kernel)⟩
theorem lw_p12 : lw_okq (⟨"SevenPlates$Evening", "comes", "(II)V"⟩, 11) := ⟨⟨by decide +kernel, by decide +kernel⟩, List.mem_of_getElem? (i := 142) (by decide +kernel), List.mem_of_getElem? (i := 420) (by decide +kernel), List.mem_of_getElem? (i := 421) (by decide +kernel)⟩
theorem lw_p13 : lw_okq (⟨"SevenPlates$Evening", "fail", "(II)V"⟩, 11) := ⟨⟨by decide +kernel, by decide +kernel⟩, List.mem_of_getElem? (i := 142) (by decide +kernel), List.mem_of_getElem? (i := 425) (by decide +kernel), List.mem_of_getElem? (i := 426) (by decide +kernel)⟩
theorem lw_p14 : lw_okq (⟨"SevenPlates$Course", "choice", "(I)I"⟩, 4) := ⟨⟨by decide +kernel, by decide +kernel⟩, List.mem_of_getElem? (i := 114) (by decide +kernel), List.mem_of_getElem? (i := 429) (by decide +kernel), List.mem_of_getElem? (i := 430) (by decide +kernel)⟩
theorem lw_p15 : lw_okq (⟨"SevenPlates$Course", "rank", "(II)I"⟩, 4) := ⟨⟨by decide +kernel, by decide +kernel⟩, List.mem_of_getElem? (i := 114) (by decide +kernel), List.mem_of_getElem? (i := 433) (by decide +kernel), List.mem_of_getElem? (i := 434) (by decide +kernel)⟩
def lw_privs_1 : List (MethodName × Nat) := [(⟨"SevenPlates$Table", "asAtFirst", "(I)V"⟩, 12), (⟨"SevenPlates$Table", "hasThing", "(I)Z"⟩, 12), (⟨"SevenPlates$Table", "ofThing", "(II)I"⟩, 12), (⟨"SevenPlates$Table", "change", "(III)V"⟩, 12), (⟨"SevenPlates$Table", "welcome", "(IIIII)V"⟩, 12), (⟨"SevenPlates$Table", "hasGuest", "(I)Z"⟩, 12), (⟨"SevenPlates$Pad", "add", "(I)I"⟩, 2), (⟨"SevenPlates$Pad", "firstFault", "(I)I"⟩, 2), (⟨"SevenPlates", "runEvening", "()I"⟩, 10), (⟨"SevenPlates$Evening", "run", "(LSevenPlates$Pad;)V"⟩, 11), (⟨"SevenPlates$Evening", "begin", "()V"⟩, 11), (⟨"SevenPlates$Course", "begin", "()V"⟩, 4), (⟨"SevenPlates$Evening", "comes", "(II)V"⟩, 11), (⟨"SevenPlates$Evening", "fail", "(II)V"⟩, 11), (⟨"SevenPlates$Course", "choice", "(I)I"⟩, 4), (⟨"SevenPlates$Course", "rank", "(II)I"⟩, 4)]
theorem lw_r1 : ∀ q ∈ lw_privs_1, lw_okq q := List.forall_mem_cons.mpr ⟨lw_p0, List.forall_mem_cons.mpr ⟨lw_p1, List.forall_mem_cons.mpr ⟨lw_p2, List.forall_mem_cons.mpr ⟨lw_p3, List.forall_mem_cons.mpr ⟨lw_p4, List.forall_mem_cons.mpr ⟨lw_p5, List.forall_mem_cons.mpr ⟨lw_p6, List.forall_mem_cons.mpr ⟨lw_p7, List.forall_mem_cons.mpr ⟨lw_p8, List.forall_mem_cons.mpr ⟨lw_p9, List.forall_mem_cons.mpr ⟨lw_p10, List.forall_mem_cons.mpr ⟨lw_p11, List.forall_mem_cons.mpr ⟨lw_p12, List.forall_mem_cons.mpr ⟨lw_p13, List.forall_mem_cons.mpr ⟨lw_p14, List.forall_mem_cons.mpr ⟨lw_p15, fun _ h => absurd h List.not_mem_nil⟩⟩⟩⟩⟩⟩⟩⟩⟩⟩⟩⟩⟩⟩⟩⟩
theorem lw_p16 : lw_okq (⟨"SevenPlates$Course", "use", "(II)I"⟩, 4) := ⟨⟨by decide +kernel, by decide +kernel⟩, List.mem_of_getElem? (i := 114) (by decide +kernel), List.mem_of_getElem? (i := 440) (by decide +kernel), List.mem_of_getElem? (i := 441) (by decide +kernel)⟩
theorem lw_p17 : lw_okq (⟨"SevenPlates$Course", "bite", "(II)I"⟩, 4) := ⟨⟨by decide +kernel, by decide +kernel⟩, List.mem_of_getElem? (i := 114) (by decide +kernel), List.mem_of_getElem? (i := 444) (by decide +kernel), List.mem_of_getElem? (i := 445) (by decide +kernel)⟩
theorem lw_p18 : lw_okq (⟨"SevenPlates$Evening", "cool", "()V"⟩, 11) := ⟨⟨by decide +kernel, by decide +kernel⟩, List.mem_of_getElem? (i := 142) (by decide +kernel), List.mem_of_getElem? (i := 451) (by decide +kernel), List.mem_of_getElem? (i := 452) (by decide +kernel)⟩
theorem lw_p19 : lw_okq (⟨"SevenPlates$Evening", "fill", "(I)V"⟩, 11) := ⟨⟨by decide +kernel, by decide +kernel⟩, List.mem_of_getElem? (i := 142) (by decide +kernel), List.mem_of_getElem? (i := 458) (by decide +kernel), List.mem_of_getElem? (i := 459) (by decide +kernel)⟩
theorem lw_p20 : lw_okq (⟨"SevenPlates$Table", "sightBits", "()I"⟩, 12) := ⟨⟨by decide +kernel, by decide +kernel⟩, List.mem_of_getElem? (i := 24) (by decide +kernel), List.mem_of_getElem? (i := 490) (by decide +kernel), List.mem_of_getElem? (i := 491) (by decide +kernel)⟩
theorem lw_p21 : lw_okq (⟨"SevenPlates$Rows", "gather", "([II)V"⟩, 12) := ⟨⟨by decide +kernel, by decide +kernel⟩, List.mem_of_getElem? (i := 191) (by decide +kernel), List.mem_of_getElem? (i := 506) (by decide +kernel), List.mem_of_getElem? (i := 507) (by decide +kernel)⟩
theorem lw_p22 : lw_okq (⟨"SevenPlates$Rows", "walk", "(III)V"⟩, 12) := ⟨⟨by decide +kernel, by decide +kernel⟩, List.mem_of_getElem? (i := 191) (by decide +kernel), List.mem_of_getElem? (i := 514) (by decide +kernel), List.mem_of_getElem? (i := 515) (by decide +kernel)⟩
theorem lw_p23 : lw_okq (⟨"SevenPlates$Course", "stillToEat", "([I)I"⟩, 4) := ⟨⟨by decide +kernel, by decide +kernel⟩, List.mem_of_getElem? (i := 114) (by decide +kernel), List.mem_of_getElem? (i := 518) (by decide +kernel), List.mem_of_getElem? (i := 519) (by decide +kernel)⟩
theorem lw_p24 : lw_okq (⟨"SevenPlates$Rows", "note", "(II)V"⟩, 12) := ⟨⟨by decide +kernel, by decide +kernel⟩, List.mem_of_getElem? (i := 191) (by decide +kernel), List.mem_of_getElem? (i := 522) (by decide +kernel), List.mem_of_getElem? (i := 523) (by decide +kernel)⟩
theorem lw_p25 : lw_okq (⟨"SevenPlates$Course", "takeBack", "(III)V"⟩, 4) := ⟨⟨by decide +kernel, by decide +kernel⟩, List.mem_of_getElem? (i := 114) (by decide +kernel), List.mem_of_getElem? (i := 529) (by decide +kernel), List.mem_of_getElem? (i := 530) (by decide +kernel)⟩
theorem lw_p26 : lw_okq (⟨"SevenPlates$Rows", "atPlace", "(I)I"⟩, 12) := ⟨⟨by decide +kernel, by decide +kernel⟩, List.mem_of_getElem? (i := 191) (by decide +kernel), List.mem_of_getElem? (i := 533) (by decide +kernel), List.mem_of_getElem? (i := 534) (by decide +kernel)⟩
theorem lw_p27 : lw_okq (⟨"SevenPlates$Rows", "bestToLookAt", "()I"⟩, 12) := ⟨⟨by decide +kernel, by decide +kernel⟩, List.mem_of_getElem? (i := 191) (by decide +kernel), List.mem_of_getElem? (i := 545) (by decide +kernel), List.mem_of_getElem? (i := 546) (by decide +kernel)⟩
theorem lw_p28 : lw_okq (⟨"SevenPlates$Rows", "mostLeftOver", "(I)I"⟩, 12) := ⟨⟨by decide +kernel, by decide +kernel⟩, List.mem_of_getElem? (i := 191) (by decide +kernel), List.mem_of_getElem? (i := 549) (by decide +kernel), List.mem_of_getElem? (i := 550) (by decide +kernel)⟩
theorem lw_p29 : lw_okq (⟨"SevenPlates$Beliefs", "weigh", "(II)V"⟩, 4) := ⟨⟨by decide +kernel, by decide +kernel⟩, List.mem_of_getElem? (i := 241) (by decide +kernel), List.mem_of_getElem? (i := 562) (by decide +kernel), List.mem_of_getElem? (i := 563) (by decide +kernel)⟩
theorem lw_p30 : lw_okq (⟨"SevenPlates$Beliefs", "ways", "(II)J"⟩, 4) := ⟨⟨by decide +kernel, by decide +kernel⟩, List.mem_of_getElem? (i := 241) (by decide +kernel), List.mem_of_getElem? (i := 569) (by decide +kernel), List.mem_of_getElem? (i := 570) (by decide +kernel)⟩
theorem lw_p31 : lw_okq (⟨"SevenPlates$Course", "visit", "(I)I"⟩, 4) := ⟨⟨by decide +kernel, by decide +kernel⟩, List.mem_of_getElem? (i := 114) (by decide +kernel), List.mem_of_getElem? (i := 574) (by decide +kernel), List.mem_of_getElem? (i := 575) (by decide +kernel)⟩
def lw_privs_2 : List (MethodName × Nat) := [(⟨"SevenPlates$Course", "use", "(II)I"⟩, 4), (⟨"SevenPlates$Course", "bite", "(II)I"⟩, 4), (⟨"SevenPlates$Evening", "cool", "()V"⟩, 11), (⟨"SevenPlates$Evening", "fill", "(I)V"⟩, 11), (⟨"SevenPlates$Table", "sightBits", "()I"⟩, 12), (⟨"SevenPlates$Rows", "gather", "([II)V"⟩, 12), (⟨"SevenPlates$Rows", "walk", "(III)V"⟩, 12), (⟨"SevenPlates$Course", "stillToEat", "([I)I"⟩, 4), (⟨"SevenPlates$Rows", "note", "(II)V"⟩, 12), (⟨"SevenPlates$Course", "takeBack", "(III)V"⟩, 4), (⟨"SevenPlates$Rows", "atPlace", "(I)I"⟩, 12), (⟨"SevenPlates$Rows", "bestToLookAt", "()I"⟩, 12), (⟨"SevenPlates$Rows", "mostLeftOver", "(I)I"⟩, 12), (⟨"SevenPlates$Beliefs", "weigh", "(II)V"⟩, 4), (⟨"SevenPlates$Beliefs", "ways", "(II)J"⟩, 4), (⟨"SevenPlates$Course", "visit", "(I)I"⟩, 4)]
theorem lw_r2 : ∀ q ∈ lw_privs_2, lw_okq q := List.forall_mem_cons.mpr ⟨lw_p16, List.forall_mem_cons.mpr ⟨lw_p17, List.forall_mem_cons.mpr ⟨lw_p18, List.forall_mem_cons.mpr ⟨lw_p19, List.forall_mem_cons.mpr ⟨lw_p20, List.forall_mem_cons.mpr ⟨lw_p21, List.forall_mem_cons.mpr ⟨lw_p22, List.forall_mem_cons.mpr ⟨lw_p23, List.forall_mem_cons.mpr ⟨lw_p24, List.forall_mem_cons.mpr ⟨lw_p25, List.forall_mem_cons.mpr ⟨lw_p26, List.forall_mem_cons.mpr ⟨lw_p27, List.forall_mem_cons.mpr ⟨lw_p28, List.forall_mem_cons.mpr ⟨lw_p29, List.forall_mem_cons.mpr ⟨lw_p30, List.forall_mem_cons.mpr ⟨lw_p31, fun _ h => absurd h List.not_mem_nil⟩⟩⟩⟩⟩⟩⟩⟩⟩⟩⟩⟩⟩⟩⟩⟩
theorem lw_p32 : lw_okq (⟨"SevenPlates$Beliefs", "reduce", "()V"⟩, 4) := ⟨⟨by decide +kernel, by decide +kernel⟩, List.mem_of_getElem? (i := 241) (by decide +kernel), List.mem_of_getElem? (i := 582) (by decide +kernel), List.mem_of_getElem? (i := 583) (by decide +kernel)⟩
theorem lw_p33 : lw_okq (⟨"SevenPlates$Twos", "howMany", "()I"⟩, 3) := ⟨⟨by decide +kernel, by decide +kernel⟩, List.mem_of_getElem? (i := 278) (by decide +kernel), List.mem_of_getElem? (i := 590) (by decide +kernel), List.mem_of_getElem? (i := 591) (by decide +kernel)⟩
theorem lw_p34 : lw_okq (⟨"SevenPlates$Twos", "areAlike", "(II)Z"⟩, 3) := ⟨⟨by decide +kernel, by decide +kernel⟩, List.mem_of_getElem? (i := 278) (by decide +kernel), List.mem_of_getElem? (i := 597) (by decide +kernel), List.mem_of_getElem? (i := 598) (by decide +kernel)⟩
theorem lw_p35 : lw_okq (⟨"SevenPlates$Twos", "atPlace", "(I)I"⟩, 3) := ⟨⟨by decide +kernel, by decide +kernel⟩, List.mem_of_getElem? (i := 278) (by decide +kernel), List.mem_of_getElem? (i := 601) (by decide +kernel), List.mem_of_getElem? (i := 602) (by decide +kernel)⟩
theorem lw_p36 : lw_okq (⟨"SevenPlates$Twos", "fewestLaidAnew", "()I"⟩, 3) := ⟨⟨by decide +kernel, by decide +kernel⟩, List.mem_of_getElem? (i := 278) (by decide +kernel), List.mem_of_getElem? (i := 610) (by decide +kernel), List.mem_of_getElem? (i := 611) (by decide +kernel)⟩
theorem lw_p37 : lw_okq (⟨"SevenPlates$Twos", "helps", "(II)Z"⟩, 3) := ⟨⟨by decide +kernel, by decide +kernel⟩, List.mem_of_getElem? (i := 278) (by decide +kernel), List.mem_of_getElem? (i := 614) (by decide +kernel), List.mem_of_getElem? (i := 615) (by decide +kernel)⟩
theorem lw_p38 : lw_okq (⟨"SevenPlates$Leavings", "howMany", "(I)I"⟩, 3) := ⟨⟨by decide +kernel, by decide +kernel⟩, List.mem_of_getElem? (i := 262) (by decide +kernel), List.mem_of_getElem? (i := 630) (by decide +kernel), List.mem_of_getElem? (i := 631) (by decide +kernel)⟩
theorem lw_p39 : lw_okq (⟨"SevenPlates$Leavings", "walk", "(I)V"⟩, 3) := ⟨⟨by decide +kernel, by decide +kernel⟩, List.mem_of_getElem? (i := 262) (by decide +kernel), List.mem_of_getElem? (i := 636) (by decide +kernel), List.mem_of_getElem? (i := 637) (by decide +kernel)⟩
theorem lw_p40 : lw_okq (⟨"SevenPlates$Course", "asNumber", "()I"⟩, 4) := ⟨⟨by decide +kernel, by decide +kernel⟩, List.mem_of_getElem? (i := 114) (by decide +kernel), List.mem_of_getElem? (i := 640) (by decide +kernel), List.mem_of_getElem? (i := 641) (by decide +kernel)⟩
theorem lw_p41 : lw_okq (⟨"SevenPlates$Leavings", "put", "(I)V"⟩, 3) := ⟨⟨by decide +kernel, by decide +kernel⟩, List.mem_of_getElem? (i := 262) (by decide +kernel), List.mem_of_getElem? (i := 644) (by decide +kernel), List.mem_of_getElem? (i := 645) (by decide +kernel)⟩
theorem lw_p42 : lw_okq (⟨"SevenPlates$Table", "copyFrom", "(LSevenPlates$Table;)V"⟩, 12) := ⟨⟨by decide +kernel, by decide +kernel⟩, List.mem_of_getElem? (i := 24) (by decide +kernel), List.mem_of_getElem? (i := 661) (by decide +kernel), List.mem_of_getElem? (i := 662) (by decide +kernel)⟩
theorem lw_p43 : lw_okq (⟨"SevenPlates", "toldOfGuest", "(II)I"⟩, 10) := ⟨⟨by decide +kernel, by decide +kernel⟩, List.mem_of_getElem? (i := 16) (by decide +kernel), List.mem_of_getElem? (i := 674) (by decide +kernel), List.mem_of_getElem? (i := 675) (by decide +kernel)⟩
theorem lw_p44 : lw_okq (⟨"SevenPlates$Table", "ofGuest", "(II)I"⟩, 12) := ⟨⟨by decide +kernel, by decide +kernel⟩, List.mem_of_getElem? (i := 24) (by decide +kernel), List.mem_of_getElem? (i := 678) (by decide +kernel), List.mem_of_getElem? (i := 679) (by decide +kernel)⟩
theorem lw_p45 : lw_okq (⟨"SevenPlates", "toldOfThing", "(II)I"⟩, 10) := ⟨⟨by decide +kernel, by decide +kernel⟩, List.mem_of_getElem? (i := 16) (by decide +kernel), List.mem_of_getElem? (i := 682) (by decide +kernel), List.mem_of_getElem? (i := 683) (by decide +kernel)⟩
theorem lw_p46 : lw_okq (⟨"SevenPlatesModel", "begin", "(I)V"⟩, 38) := ⟨⟨by decide +kernel, by decide +kernel⟩, List.mem_of_getElem? (i := 686) (by decide +kernel), List.mem_of_getElem? (i := 692) (by decide +kernel), List.mem_of_getElem? (i := 693) (by decide +kernel)⟩
theorem lw_p47 : lw_okq (⟨"SevenPlatesModel", "isThing", "(I)Z"⟩, 38) := ⟨⟨by decide +kernel, by decide +kernel⟩, List.mem_of_getElem? (i := 686) (by decide +kernel), List.mem_of_getElem? (i := 826) (by decide +kernel), List.mem_of_getElem? (i := 827) (by decide +kernel)⟩
def lw_privs_3 : List (MethodName × Nat) := [(⟨"SevenPlates$Beliefs", "reduce", "()V"⟩, 4), (⟨"SevenPlates$Twos", "howMany", "()I"⟩, 3), (⟨"SevenPlates$Twos", "areAlike", "(II)Z"⟩, 3), (⟨"SevenPlates$Twos", "atPlace", "(I)I"⟩, 3), (⟨"SevenPlates$Twos", "fewestLaidAnew", "()I"⟩, 3), (⟨"SevenPlates$Twos", "helps", "(II)Z"⟩, 3), (⟨"SevenPlates$Leavings", "howMany", "(I)I"⟩, 3), (⟨"SevenPlates$Leavings", "walk", "(I)V"⟩, 3), (⟨"SevenPlates$Course", "asNumber", "()I"⟩, 4), (⟨"SevenPlates$Leavings", "put", "(I)V"⟩, 3), (⟨"SevenPlates$Table", "copyFrom", "(LSevenPlates$Table;)V"⟩, 12), (⟨"SevenPlates", "toldOfGuest", "(II)I"⟩, 10), (⟨"SevenPlates$Table", "ofGuest", "(II)I"⟩, 12), (⟨"SevenPlates", "toldOfThing", "(II)I"⟩, 10), (⟨"SevenPlatesModel", "begin", "(I)V"⟩, 38), (⟨"SevenPlatesModel", "isThing", "(I)Z"⟩, 38)]
theorem lw_r3 : ∀ q ∈ lw_privs_3, lw_okq q := List.forall_mem_cons.mpr ⟨lw_p32, List.forall_mem_cons.mpr ⟨lw_p33, List.forall_mem_cons.mpr ⟨lw_p34, List.forall_mem_cons.mpr ⟨lw_p35, List.forall_mem_cons.mpr ⟨lw_p36, List.forall_mem_cons.mpr ⟨lw_p37, List.forall_mem_cons.mpr ⟨lw_p38, List.forall_mem_cons.mpr ⟨lw_p39, List.forall_mem_cons.mpr ⟨lw_p40, List.forall_mem_cons.mpr ⟨lw_p41, List.forall_mem_cons.mpr ⟨lw_p42, List.forall_mem_cons.mpr ⟨lw_p43, List.forall_mem_cons.mpr ⟨lw_p44, List.forall_mem_cons.mpr ⟨lw_p45, List.forall_mem_cons.mpr ⟨lw_p46, List.forall_mem_cons.mpr ⟨lw_p47, fun _ h => absurd h List.not_mem_nil⟩⟩⟩⟩⟩⟩⟩⟩⟩⟩⟩⟩⟩⟩⟩⟩
theorem lw_p48 : lw_okq (⟨"SevenPlatesModel", "isThere", "(I)Z"⟩, 38) := ⟨⟨by decide +kernel, by decide +kernel⟩, List.mem_of_getElem? (i := 686) (by decide +kernel), List.mem_of_getElem? (i := 843) (by decide +kernel), List.mem_of_getElem? (i := 844) (by decide +kernel)⟩
theorem lw_p49 : lw_okq (⟨"SevenPlatesModel", "refusal", "()I"⟩, 38) := ⟨⟨by decide +kernel, by decide +kernel⟩, List.mem_of_getElem? (i := 686) (by decide +kernel), List.mem_of_getElem? (i := 867) (by decide +kernel), List.mem_of_getElem? (i := 868) (by decide +kernel)⟩
theorem lw_p50 : lw_okq (⟨"SevenPlatesModel", "keepNow", "()V"⟩, 38) := ⟨⟨by decide +kernel, by decide +kernel⟩, List.mem_of_getElem? (i := 686) (by decide +kernel), List.mem_of_getElem? (i := 872) (by decide +kernel), List.mem_of_getElem? (i := 873) (by decide +kernel)⟩
theorem lw_p51 : lw_okq (⟨"SevenPlatesModel", "goEvening", "()V"⟩, 38) := ⟨⟨by decide +kernel, by decide +kernel⟩, List.mem_of_getElem? (i := 686) (by decide +kernel), List.mem_of_getElem? (i := 876) (by decide +kernel), List.mem_of_getElem? (i := 877) (by decide +kernel)⟩
theorem lw_p52 : lw_okq (⟨"SevenPlatesModel", "passHour", "()V"⟩, 38) := ⟨⟨by decide +kernel, by decide +kernel⟩, List.mem_of_getElem? (i := 686) (by decide +kernel), List.mem_of_getElem? (i := 880) (by decide +kernel), List.mem_of_getElem? (i := 881) (by decide +kernel)⟩
theorem lw_p53 : lw_okq (⟨"SevenPlatesModel", "comeIn", "(II)V"⟩, 38) := ⟨⟨by decide +kernel, by decide +kernel⟩, List.mem_of_getElem? (i := 686) (by decide +kernel), List.mem_of_getElem? (i := 886) (by decide +kernel), List.mem_of_getElem? (i := 887) (by decide +kernel)⟩
theorem lw_p54 : lw_okq (⟨"SevenPlatesModel", "taken", "(I)I"⟩, 38) := ⟨⟨by decide +kernel, by decide +kernel⟩, List.mem_of_getElem? (i := 686) (by decide +kernel), List.mem_of_getElem? (i := 890) (by decide +kernel), List.mem_of_getElem? (i := 891) (by decide +kernel)⟩
theorem lw_p55 : lw_okq (⟨"SevenPlatesModel", "isPassed", "(I)Z"⟩, 38) := ⟨⟨by decide +kernel, by decide +kernel⟩, List.mem_of_getElem? (i := 686) (by decide +kernel), List.mem_of_getElem? (i := 894) (by decide +kernel), List.mem_of_getElem? (i := 895) (by decide +kernel)⟩
theorem lw_p56 : lw_okq (⟨"SevenPlatesModel", "likes", "(II)I"⟩, 38) := ⟨⟨by decide +kernel, by decide +kernel⟩, List.mem_of_getElem? (i := 686) (by decide +kernel), List.mem_of_getElem? (i := 898) (by decide +kernel), List.mem_of_getElem? (i := 899) (by decide +kernel)⟩
theorem lw_p57 : lw_okq (⟨"SevenPlatesModel", "use", "(II)V"⟩, 38) := ⟨⟨by decide +kernel, by decide +kernel⟩, List.mem_of_getElem? (i := 686) (by decide +kernel), List.mem_of_getElem? (i := 902) (by decide +kernel), List.mem_of_getElem? (i := 903) (by decide +kernel)⟩
theorem lw_p58 : lw_okq (⟨"SevenPlatesModel", "putBack", "()V"⟩, 38) := ⟨⟨by decide +kernel, by decide +kernel⟩, List.mem_of_getElem? (i := 686) (by decide +kernel), List.mem_of_getElem? (i := 906) (by decide +kernel), List.mem_of_getElem? (i := 907) (by decide +kernel)⟩
theorem lw_p59 : lw_okq (⟨"SevenPlatesModel", "sights", "()I"⟩, 38) := ⟨⟨by decide +kernel, by decide +kernel⟩, List.mem_of_getElem? (i := 686) (by decide +kernel), List.mem_of_getElem? (i := 934) (by decide +kernel), List.mem_of_getElem? (i := 935) (by decide +kernel)⟩
theorem lw_p60 : lw_okq (⟨"SevenPlatesModel", "goRows", "(I)V"⟩, 38) := ⟨⟨by decide +kernel, by decide +kernel⟩, List.mem_of_getElem? (i := 686) (by decide +kernel), List.mem_of_getElem? (i := 947) (by decide +kernel), List.mem_of_getElem? (i := 948) (by decide +kernel)⟩
theorem lw_p61 : lw_okq (⟨"SevenPlatesModel", "layRow", "(II)V"⟩, 38) := ⟨⟨by decide +kernel, by decide +kernel⟩, List.mem_of_getElem? (i := 686) (by decide +kernel), List.mem_of_getElem? (i := 954) (by decide +kernel), List.mem_of_getElem? (i := 955) (by decide +kernel)⟩
theorem lw_p62 : lw_okq (⟨"SevenPlatesModel", "canGo", "(I)Z"⟩, 38) := ⟨⟨by decide +kernel, by decide +kernel⟩, List.mem_of_getElem? (i := 686) (by decide +kernel), List.mem_of_getElem? (i := 958) (by decide +kernel), List.mem_of_getElem? (i := 959) (by decide +kernel)⟩
theorem lw_p63 : lw_okq (⟨"SevenPlatesModel", "isSeenSo", "()Z"⟩, 38) := ⟨⟨by decide +kernel, by decide +kernel⟩, List.mem_of_getElem? (i := 686) (by decide +kernel), List.mem_of_getElem? (i := 962) (by decide +kernel), List.mem_of_getElem? (i := 963) (by decide +kernel)⟩
def lw_privs_4 : List (MethodName × Nat) := [(⟨"SevenPlatesModel", "isThere", "(I)Z"⟩, 38), (⟨"SevenPlatesModel", "refusal", "()I"⟩, 38), (⟨"SevenPlatesModel", "keepNow", "()V"⟩, 38), (⟨"SevenPlatesModel", "goEvening", "()V"⟩, 38), (⟨"SevenPlatesModel", "passHour", "()V"⟩, 38), (⟨"SevenPlatesModel", "comeIn", "(II)V"⟩, 38), (⟨"SevenPlatesModel", "taken", "(I)I"⟩, 38), (⟨"SevenPlatesModel", "isPassed", "(I)Z"⟩, 38), (⟨"SevenPlatesModel", "likes", "(II)I"⟩, 38), (⟨"SevenPlatesModel", "use", "(II)V"⟩, 38), (⟨"SevenPlatesModel", "putBack", "()V"⟩, 38), (⟨"SevenPlatesModel", "sights", "()I"⟩, 38), (⟨"SevenPlatesModel", "goRows", "(I)V"⟩, 38), (⟨"SevenPlatesModel", "layRow", "(II)V"⟩, 38), (⟨"SevenPlatesModel", "canGo", "(I)Z"⟩, 38), (⟨"SevenPlatesModel", "isSeenSo", "()Z"⟩, 38)]
theorem lw_r4 : ∀ q ∈ lw_privs_4, lw_okq q := List.forall_mem_cons.mpr ⟨lw_p48, List.forall_mem_cons.mpr ⟨lw_p49, List.forall_mem_cons.mpr ⟨lw_p50, List.forall_mem_cons.mpr ⟨lw_p51, List.forall_mem_cons.mpr ⟨lw_p52, List.forall_mem_cons.mpr ⟨lw_p53, List.forall_mem_cons.mpr ⟨lw_p54, List.forall_mem_cons.mpr ⟨lw_p55, List.forall_mem_cons.mpr ⟨lw_p56, List.forall_mem_cons.mpr ⟨lw_p57, List.forall_mem_cons.mpr ⟨lw_p58, List.forall_mem_cons.mpr ⟨lw_p59, List.forall_mem_cons.mpr ⟨lw_p60, List.forall_mem_cons.mpr ⟨lw_p61, List.forall_mem_cons.mpr ⟨lw_p62, List.forall_mem_cons.mpr ⟨lw_p63, fun _ h => absurd h List.not_mem_nil⟩⟩⟩⟩⟩⟩⟩⟩⟩⟩⟩⟩⟩⟩⟩⟩
theorem lw_p64 : lw_okq (⟨"SevenPlatesModel", "countRow", "(I)V"⟩, 38) := ⟨⟨by decide +kernel, by decide +kernel⟩, List.mem_of_getElem? (i := 686) (by decide +kernel), List.mem_of_getElem? (i := 966) (by decide +kernel), List.mem_of_getElem? (i := 967) (by decide +kernel)⟩
theorem lw_p65 : lw_okq (⟨"SevenPlatesModel", "mostLeft", "(I)I"⟩, 38) := ⟨⟨by decide +kernel, by decide +kernel⟩, List.mem_of_getElem? (i := 686) (by decide +kernel), List.mem_of_getElem? (i := 978) (by decide +kernel), List.mem_of_getElem? (i := 979) (by decide +kernel)⟩
theorem lw_p66 : lw_okq (⟨"SevenPlatesModel", "weightOf", "(I)J"⟩, 38) := ⟨⟨by decide +kernel, by decide +kernel⟩, List.mem_of_getElem? (i := 686) (by decide +kernel), List.mem_of_getElem? (i := 989) (by decide +kernel), List.mem_of_getElem? (i := 990) (by decide +kernel)⟩
theorem lw_p67 : lw_okq (⟨"SevenPlatesModel", "findAlone", "()V"⟩, 38) := ⟨⟨by decide +kernel, by decide +kernel⟩, List.mem_of_getElem? (i := 686) (by decide +kernel), List.mem_of_getElem? (i := 1000) (by decide +kernel), List.mem_of_getElem? (i := 1001) (by decide +kernel)⟩
theorem lw_p68 : lw_okq (⟨"SevenPlatesModel", "tableNow", "()I"⟩, 38) := ⟨⟨by decide +kernel, by decide +kernel⟩, List.mem_of_getElem? (i := 686) (by decide +kernel), List.mem_of_getElem? (i := 1004) (by decide +kernel), List.mem_of_getElem? (i := 1005) (by decide +kernel)⟩
theorem lw_p69 : lw_okq (⟨"SevenPlatesModel", "laidSet", "()I"⟩, 38) := ⟨⟨by decide +kernel, by decide +kernel⟩, List.mem_of_getElem? (i := 686) (by decide +kernel), List.mem_of_getElem? (i := 1012) (by decide +kernel), List.mem_of_getElem? (i := 1013) (by decide +kernel)⟩
theorem lw_p70 : lw_okq (⟨"SevenPlatesModel", "areApart", "()Z"⟩, 38) := ⟨⟨by decide +kernel, by decide +kernel⟩, List.mem_of_getElem? (i := 686) (by decide +kernel), List.mem_of_getElem? (i := 1016) (by decide +kernel), List.mem_of_getElem? (i := 1017) (by decide +kernel)⟩
theorem lw_p71 : lw_okq (⟨"SevenPlatesModel", "canBeLaid", "(II)Z"⟩, 38) := ⟨⟨by decide +kernel, by decide +kernel⟩, List.mem_of_getElem? (i := 686) (by decide +kernel), List.mem_of_getElem? (i := 1020) (by decide +kernel), List.mem_of_getElem? (i := 1021) (by decide +kernel)⟩
theorem lw_p72 : lw_okq (⟨"SevenPlatesModel", "isLeftSo", "()Z"⟩, 38) := ⟨⟨by decide +kernel, by decide +kernel⟩, List.mem_of_getElem? (i := 686) (by decide +kernel), List.mem_of_getElem? (i := 1032) (by decide +kernel), List.mem_of_getElem? (i := 1033) (by decide +kernel)⟩
theorem lw_p73 : lw_okq (⟨"SevenPlatesModel", "passAll", "()V"⟩, 38) := ⟨⟨by decide +kernel, by decide +kernel⟩, List.mem_of_getElem? (i := 686) (by decide +kernel), List.mem_of_getElem? (i := 1055) (by decide +kernel), List.mem_of_getElem? (i := 1056) (by decide +kernel)⟩
theorem lw_p74 : lw_okq (⟨"SevenPlatesModel", "pass", "(I)I"⟩, 38) := ⟨⟨by decide +kernel, by decide +kernel⟩, List.mem_of_getElem? (i := 686) (by decide +kernel), List.mem_of_getElem? (i := 1059) (by decide +kernel), List.mem_of_getElem? (i := 1060) (by decide +kernel)⟩
theorem lw_p75 : lw_okq (⟨"SevenPlatesModel", "toldOfGuest", "(II)I"⟩, 38) := ⟨⟨by decide +kernel, by decide +kernel⟩, List.mem_of_getElem? (i := 686) (by decide +kernel), List.mem_of_getElem? (i := 1073) (by decide +kernel), List.mem_of_getElem? (i := 1074) (by decide +kernel)⟩
theorem lw_p76 : lw_okq (⟨"SevenPlatesModel", "toldOfThing", "(II)I"⟩, 38) := ⟨⟨by decide +kernel, by decide +kernel⟩, List.mem_of_getElem? (i := 686) (by decide +kernel), List.mem_of_getElem? (i := 1079) (by decide +kernel), List.mem_of_getElem? (i := 1080) (by decide +kernel)⟩
def lw_privs_5 : List (MethodName × Nat) := [(⟨"SevenPlatesModel", "countRow", "(I)V"⟩, 38), (⟨"SevenPlatesModel", "mostLeft", "(I)I"⟩, 38), (⟨"SevenPlatesModel", "weightOf", "(I)J"⟩, 38), (⟨"SevenPlatesModel", "findAlone", "()V"⟩, 38), (⟨"SevenPlatesModel", "tableNow", "()I"⟩, 38), (⟨"SevenPlatesModel", "laidSet", "()I"⟩, 38), (⟨"SevenPlatesModel", "areApart", "()Z"⟩, 38), (⟨"SevenPlatesModel", "canBeLaid", "(II)Z"⟩, 38), (⟨"SevenPlatesModel", "isLeftSo", "()Z"⟩, 38), (⟨"SevenPlatesModel", "passAll", "()V"⟩, 38), (⟨"SevenPlatesModel", "pass", "(I)I"⟩, 38), (⟨"SevenPlatesModel", "toldOfGuest", "(II)I"⟩, 38), (⟨"SevenPlatesModel", "toldOfThing", "(II)I"⟩, 38)]
theorem lw_r5 : ∀ q ∈ lw_privs_5, lw_okq q := List.forall_mem_cons.mpr ⟨lw_p64, List.forall_mem_cons.mpr ⟨lw_p65, List.forall_mem_cons.mpr ⟨lw_p66, List.forall_mem_cons.mpr ⟨lw_p67, List.forall_mem_cons.mpr ⟨lw_p68, List.forall_mem_cons.mpr ⟨lw_p69, List.forall_mem_cons.mpr ⟨lw_p70, List.forall_mem_cons.mpr ⟨lw_p71, List.forall_mem_cons.mpr ⟨lw_p72, List.forall_mem_cons.mpr ⟨lw_p73, List.forall_mem_cons.mpr ⟨lw_p74, List.forall_mem_cons.mpr ⟨lw_p75, List.forall_mem_cons.mpr ⟨lw_p76, fun _ h => absurd h List.not_mem_nil⟩⟩⟩⟩⟩⟩⟩⟩⟩⟩⟩⟩⟩
def lw_privs : List (MethodName × Nat) := lw_privs_1 ++ (lw_privs_2 ++ (lw_privs_3 ++ (lw_privs_4 ++ (lw_privs_5))))
def lw_tbl : List Cond := k2_sels lw_privs ++ tables_1
theorem lw_privs_ok : ∀ q ∈ lw_privs, lw_okq q := by
  show ∀ q ∈ lw_privs_1 ++ (lw_privs_2 ++ (lw_privs_3 ++ (lw_privs_4 ++ (lw_privs_5)))), lw_okq q
  exact List.forall_mem_append.mpr ⟨lw_r1, List.forall_mem_append.mpr ⟨lw_r2, List.forall_mem_append.mpr ⟨lw_r3, List.forall_mem_append.mpr ⟨lw_r4, lw_r5⟩⟩⟩⟩

/-! ===== BEGIN words of one list among another's, by their places ===== -/
theorem goodIn_r {big : List Cond} (ws : List Cond) (ps : List Nat) (hp : ws = ps.filterMap (fun i => big[i]?)) (h : ws.all goodWord = true) : GoodIn big ws := by
  intro w hw
  have h1 := List.all_eq_true.mp h w hw
  rw [hp] at hw
  obtain ⟨i, -, hi⟩ := List.mem_filterMap.mp hw
  have hm : w ∈ big := by first | exact List.mem_of_getElem? hi | exact List.getElem?_mem hi
  exact ⟨hm, good_of_word h1⟩
theorem goodIn_app {big a b : List Cond} (ha : GoodIn big a) (hb : GoodIn big b) : GoodIn big (a ++ b) := fun w h => (List.mem_append.mp h).elim (ha w) (hb w)
theorem goodIn_ca {big a b : List Cond} {c : Cond} (ha : GoodIn big (c :: a)) (hb : GoodIn big b) : GoodIn big (c :: (a ++ b)) := fun w h => (List.mem_cons.mp h).elim (fun e => ha w (List.mem_cons.mpr (Or.inl e))) (fun h => (List.mem_append.mp h).elim (fun h => ha w (List.mem_cons.mpr (Or.inr h))) (hb w))
theorem goodIn_sub {big ws : List Cond} (hm : ∀ w ∈ ws, w ∈ big) (h : ws.all goodWord = true) : GoodIn big ws := fun w hw => ⟨hm w hw, good_of_word (List.all_eq_true.mp h w hw)⟩
/-! ===== END ===== -/

def RX0 : String := "SevenPlates$Beliefs"
def TX0 : u_T := fun k => match k with
  | 0 => ("SevenPlates$Beliefs", "table", "LSevenPlates$Table;", true)
  | 1 => ("SevenPlates$Beliefs", "course", "LSevenPlates$Course;", true)
  | 2 => ("SevenPlates$Beliefs", "upper", "J", false)
  | _ => ("SevenPlates$Beliefs", "lower", "J", false)
def tyX0 : Nat → FieldType := fun k => match k with
  | 0 => .object "SevenPlates$Table"
  | 1 => .object "SevenPlates$Course"
  | 2 => .long
  | _ => .long
abbrev wsX00 : List Cond := u_ws RX0 TX0 4
theorem nmX0 : ∀ a, a < 4 → ∀ b, b < 4 → a ≠ b → (TX0 a).2.1 ≠ (TX0 b).2.1 := by decide +kernel
theorem tyX0_ok : ∀ k, k < 4 → parseFieldDescriptor (TX0 k).2.2.1 = some (tyX0 k) := by decide +kernel
abbrev cX0_init : ByteArray := prog_2_method_1_code
def yX0_init : MethodName := ⟨RX0, "<init>", "(LSevenPlates$Table;LSevenPlates$Course;)V"⟩
abbrev cX0_weigh : ByteArray := prog_2_method_2_code
def yX0_weigh : MethodName := ⟨RX0, "weigh", "(II)V"⟩
abbrev cX0_ways : ByteArray := prog_2_method_3_code
def yX0_ways : MethodName := ⟨RX0, "ways", "(II)J"⟩
abbrev cX0_reduce : ByteArray := prog_2_method_4_code
def yX0_reduce : MethodName := ⟨RX0, "reduce", "()V"⟩
def RX1 : String := "SevenPlates$Course"
def TX1 : u_T := fun k => match k with
  | 0 => ("SevenPlates$Course", "table", "LSevenPlates$Table;", true)
  | 1 => ("SevenPlates$Course", "left", "[I", true)
  | 2 => ("SevenPlates$Course", "locked", "I", false)
  | _ => ("SevenPlates$Course", "last", "I", false)
def tyX1 : Nat → FieldType := fun k => match k with
  | 0 => .object "SevenPlates$Table"
  | 1 => .array .int
  | 2 => .int
  | _ => .int
abbrev wsX10 : List Cond := u_ws RX1 TX1 4
theorem nmX1 : ∀ a, a < 4 → ∀ b, b < 4 → a ≠ b → (TX1 a).2.1 ≠ (TX1 b).2.1 := by decide +kernel
theorem tyX1_ok : ∀ k, k < 4 → parseFieldDescriptor (TX1 k).2.2.1 = some (tyX1 k) := by decide +kernel
abbrev cX1_init : ByteArray := prog_3_method_1_code
def yX1_init : MethodName := ⟨RX1, "<init>", "(LSevenPlates$Table;)V"⟩
abbrev cX1_begin : ByteArray := prog_3_method_2_code
def yX1_begin : MethodName := ⟨RX1, "begin", "()V"⟩
abbrev cX1_choice : ByteArray := prog_3_method_3_code
def yX1_choice : MethodName := ⟨RX1, "choice", "(I)I"⟩
abbrev cX1_rank : ByteArray := prog_3_method_4_code
def yX1_rank : MethodName := ⟨RX1, "rank", "(II)I"⟩
abbrev cX1_use : ByteArray := prog_3_method_5_code
def yX1_use : MethodName := ⟨RX1, "use", "(II)I"⟩
abbrev cX1_bite : ByteArray := prog_3_method_6_code
def yX1_bite : MethodName := ⟨RX1, "bite", "(II)I"⟩
abbrev cX1_takeBack : ByteArray := prog_3_method_7_code
def yX1_takeBack : MethodName := ⟨RX1, "takeBack", "(III)V"⟩
abbrev cX1_visit : ByteArray := prog_3_method_8_code
def yX1_visit : MethodName := ⟨RX1, "visit", "(I)I"⟩
abbrev cX1_stillToEat : ByteArray := prog_3_method_9_code
def yX1_stillToEat : MethodName := ⟨RX1, "stillToEat", "([I)I"⟩
abbrev cX1_asNumber : ByteArray := prog_3_method_10_code
def yX1_asNumber : MethodName := ⟨RX1, "asNumber", "()I"⟩
def RX2 : String := "SevenPlates$Evening"
def TX2 : u_T := fun k => match k with
  | 0 => ("SevenPlates$Evening", "table", "LSevenPlates$Table;", true)
  | 1 => ("SevenPlates$Evening", "course", "LSevenPlates$Course;", true)
  | 2 => ("SevenPlates$Evening", "warm", "[I", true)
  | 3 => ("SevenPlates$Evening", "first", "[I", true)
  | 4 => ("SevenPlates$Evening", "last", "[I", true)
  | 5 => ("SevenPlates$Evening", "leaves", "[I", true)
  | 6 => ("SevenPlates$Evening", "taken", "[I", true)
  | 7 => ("SevenPlates$Evening", "badPart", "I", false)
  | 8 => ("SevenPlates$Evening", "why", "I", false)
  | 9 => ("SevenPlates$Evening", "came", "I", false)
  | _ => ("SevenPlates$Evening", "eaten", "I", false)
def tyX2 : Nat → FieldType := fun k => match k with
  | 0 => .object "SevenPlates$Table"
  | 1 => .object "SevenPlates$Course"
  | 2 => .array .int
  | 3 => .array .int
  | 4 => .array .int
  | 5 => .array .int
  | 6 => .array .int
  | 7 => .int
  | 8 => .int
  | 9 => .int
  | _ => .int
abbrev wsX20 : List Cond := u_ws RX2 TX2 11
theorem nmX2 : ∀ a, a < 11 → ∀ b, b < 11 → a ≠ b → (TX2 a).2.1 ≠ (TX2 b).2.1 := by decide +kernel
theorem tyX2_ok : ∀ k, k < 11 → parseFieldDescriptor (TX2 k).2.2.1 = some (tyX2 k) := by decide +kernel
abbrev cX2_init : ByteArray := prog_4_method_1_code
def yX2_init : MethodName := ⟨RX2, "<init>", "(LSevenPlates$Table;LSevenPlates$Course;)V"⟩
abbrev cX2_run : ByteArray := prog_4_method_2_code
def yX2_run : MethodName := ⟨RX2, "run", "(LSevenPlates$Pad;)V"⟩
abbrev cX2_begin : ByteArray := prog_4_method_3_code
def yX2_begin : MethodName := ⟨RX2, "begin", "()V"⟩
abbrev cX2_comes : ByteArray := prog_4_method_4_code
def yX2_comes : MethodName := ⟨RX2, "comes", "(II)V"⟩
abbrev cX2_fail : ByteArray := prog_4_method_5_code
def yX2_fail : MethodName := ⟨RX2, "fail", "(II)V"⟩
abbrev cX2_cool : ByteArray := prog_4_method_6_code
def yX2_cool : MethodName := ⟨RX2, "cool", "()V"⟩
abbrev cX2_fill : ByteArray := prog_4_method_7_code
def yX2_fill : MethodName := ⟨RX2, "fill", "(I)V"⟩
def RX3 : String := "SevenPlates$Leavings"
def TX3 : u_T := fun k => match k with
  | 0 => ("SevenPlates$Leavings", "course", "LSevenPlates$Course;", true)
  | 1 => ("SevenPlates$Leavings", "found", "[I", true)
  | _ => ("SevenPlates$Leavings", "count", "I", false)
def tyX3 : Nat → FieldType := fun k => match k with
  | 0 => .object "SevenPlates$Course"
  | 1 => .array .int
  | _ => .int
abbrev wsX30 : List Cond := u_ws RX3 TX3 3
theorem nmX3 : ∀ a, a < 3 → ∀ b, b < 3 → a ≠ b → (TX3 a).2.1 ≠ (TX3 b).2.1 := by decide +kernel
theorem tyX3_ok : ∀ k, k < 3 → parseFieldDescriptor (TX3 k).2.2.1 = some (tyX3 k) := by decide +kernel
abbrev cX3_init : ByteArray := prog_5_method_1_code
def yX3_init : MethodName := ⟨RX3, "<init>", "(LSevenPlates$Course;)V"⟩
abbrev cX3_howMany : ByteArray := prog_5_method_2_code
def yX3_howMany : MethodName := ⟨RX3, "howMany", "(I)I"⟩
abbrev cX3_walk : ByteArray := prog_5_method_3_code
def yX3_walk : MethodName := ⟨RX3, "walk", "(I)V"⟩
abbrev cX3_put : ByteArray := prog_5_method_4_code
def yX3_put : MethodName := ⟨RX3, "put", "(I)V"⟩
def RX4 : String := "SevenPlates$Pad"
def TX4 : u_T := fun k => match k with
  | 0 => ("SevenPlates$Pad", "count", "I", false)
  | _ => ("SevenPlates$Pad", "signs", "[I", true)
def tyX4 : Nat → FieldType := fun k => match k with
  | 0 => .int
  | _ => .array .int
abbrev wsX40 : List Cond := u_ws RX4 TX4 2
theorem nmX4 : ∀ a, a < 2 → ∀ b, b < 2 → a ≠ b → (TX4 a).2.1 ≠ (TX4 b).2.1 := by decide +kernel
theorem tyX4_ok : ∀ k, k < 2 → parseFieldDescriptor (TX4 k).2.2.1 = some (tyX4 k) := by decide +kernel
abbrev cX4_init : ByteArray := prog_6_method_1_code
def yX4_init : MethodName := ⟨RX4, "<init>", "()V"⟩
abbrev cX4_add : ByteArray := prog_6_method_2_code
def yX4_add : MethodName := ⟨RX4, "add", "(I)I"⟩
abbrev cX4_firstFault : ByteArray := prog_6_method_3_code
def yX4_firstFault : MethodName := ⟨RX4, "firstFault", "(I)I"⟩
abbrev cX4_canStand : ByteArray := prog_6_method_4_code
def yX4_canStand : MethodName := ⟨RX4, "canStand", "(II)Z"⟩
abbrev cX4_isGuest : ByteArray := prog_6_method_5_code
def yX4_isGuest : MethodName := ⟨RX4, "isGuest", "(I)Z"⟩
def RX5 : String := "SevenPlates$Rows"
def TX5 : u_T := fun k => match k with
  | 0 => ("SevenPlates$Rows", "table", "LSevenPlates$Table;", true)
  | 1 => ("SevenPlates$Rows", "course", "LSevenPlates$Course;", true)
  | 2 => ("SevenPlates$Rows", "sights", "[I", true)
  | 3 => ("SevenPlates$Rows", "row", "[I", true)
  | 4 => ("SevenPlates$Rows", "firstUser", "[I", true)
  | 5 => ("SevenPlates$Rows", "count", "I", false)
  | 6 => ("SevenPlates$Rows", "fewest", "I", false)
  | 7 => ("SevenPlates$Rows", "sure", "I", false)
  | 8 => ("SevenPlates$Rows", "maybe", "I", false)
  | 9 => ("SevenPlates$Rows", "least", "[I", true)
  | 10 => ("SevenPlates$Rows", "cups", "[I", true)
  | _ => ("SevenPlates$Rows", "rowsByLeft", "[[I", true)
def tyX5 : Nat → FieldType := fun k => match k with
  | 0 => .object "SevenPlates$Table"
  | 1 => .object "SevenPlates$Course"
  | 2 => .array .int
  | 3 => .array .int
  | 4 => .array .int
  | 5 => .int
  | 6 => .int
  | 7 => .int
  | 8 => .int
  | 9 => .array .int
  | 10 => .array .int
  | _ => .array (.array .int)
abbrev wsX50 : List Cond := u_ws RX5 TX5 12
theorem nmX5 : ∀ a, a < 12 → ∀ b, b < 12 → a ≠ b → (TX5 a).2.1 ≠ (TX5 b).2.1 := by decide +kernel
theorem tyX5_ok : ∀ k, k < 12 → parseFieldDescriptor (TX5 k).2.2.1 = some (tyX5 k) := by decide +kernel
abbrev cX5_init : ByteArray := prog_7_method_1_code
def yX5_init : MethodName := ⟨RX5, "<init>", "(LSevenPlates$Table;LSevenPlates$Course;)V"⟩
abbrev cX5_gather : ByteArray := prog_7_method_2_code
def yX5_gather : MethodName := ⟨RX5, "gather", "([II)V"⟩
abbrev cX5_walk : ByteArray := prog_7_method_3_code
def yX5_walk : MethodName := ⟨RX5, "walk", "(III)V"⟩
abbrev cX5_note : ByteArray := prog_7_method_4_code
def yX5_note : MethodName := ⟨RX5, "note", "(II)V"⟩
abbrev cX5_atPlace : ByteArray := prog_7_method_5_code
def yX5_atPlace : MethodName := ⟨RX5, "atPlace", "(I)I"⟩
abbrev cX5_bestToLookAt : ByteArray := prog_7_method_6_code
def yX5_bestToLookAt : MethodName := ⟨RX5, "bestToLookAt", "()I"⟩
abbrev cX5_mostLeftOver : ByteArray := prog_7_method_7_code
def yX5_mostLeftOver : MethodName := ⟨RX5, "mostLeftOver", "(I)I"⟩
def RX6 : String := "SevenPlates$Table"
def TX6 : u_T := fun k => match k with
  | 0 => ("SevenPlates$Table", "things", "I", false)
  | 1 => ("SevenPlates$Table", "locked", "I", false)
  | 2 => ("SevenPlates$Table", "guests", "I", false)
  | 3 => ("SevenPlates$Table", "size", "[I", true)
  | 4 => ("SevenPlates$Table", "laid", "[I", true)
  | 5 => ("SevenPlates$Table", "left", "[I", true)
  | 6 => ("SevenPlates$Table", "warm", "[I", true)
  | 7 => ("SevenPlates$Table", "sight", "[I", true)
  | 8 => ("SevenPlates$Table", "girth", "[I", true)
  | 9 => ("SevenPlates$Table", "hunger", "[I", true)
  | 10 => ("SevenPlates$Table", "habit", "[I", true)
  | _ => ("SevenPlates$Table", "often", "[I", true)
def tyX6 : Nat → FieldType := fun k => match k with
  | 0 => .int
  | 1 => .int
  | 2 => .int
  | 3 => .array .int
  | 4 => .array .int
  | 5 => .array .int
  | 6 => .array .int
  | 7 => .array .int
  | 8 => .array .int
  | 9 => .array .int
  | 10 => .array .int
  | _ => .array .int
abbrev wsX60 : List Cond := u_ws RX6 TX6 12
theorem nmX6 : ∀ a, a < 12 → ∀ b, b < 12 → a ≠ b → (TX6 a).2.1 ≠ (TX6 b).2.1 := by decide +kernel
theorem tyX6_ok : ∀ k, k < 12 → parseFieldDescriptor (TX6 k).2.2.1 = some (tyX6 k) := by decide +kernel
abbrev cX6_init : ByteArray := prog_8_method_1_code
def yX6_init : MethodName := ⟨RX6, "<init>", "()V"⟩
abbrev cX6_asAtFirst : ByteArray := prog_8_method_2_code
def yX6_asAtFirst : MethodName := ⟨RX6, "asAtFirst", "(I)V"⟩
abbrev cX6_hasThing : ByteArray := prog_8_method_3_code
def yX6_hasThing : MethodName := ⟨RX6, "hasThing", "(I)Z"⟩
abbrev cX6_hasGuest : ByteArray := prog_8_method_4_code
def yX6_hasGuest : MethodName := ⟨RX6, "hasGuest", "(I)Z"⟩
abbrev cX6_ofThing : ByteArray := prog_8_method_5_code
def yX6_ofThing : MethodName := ⟨RX6, "ofThing", "(II)I"⟩
abbrev cX6_ofGuest : ByteArray := prog_8_method_6_code
def yX6_ofGuest : MethodName := ⟨RX6, "ofGuest", "(II)I"⟩
abbrev cX6_change : ByteArray := prog_8_method_7_code
def yX6_change : MethodName := ⟨RX6, "change", "(III)V"⟩
abbrev cX6_welcome : ByteArray := prog_8_method_8_code
def yX6_welcome : MethodName := ⟨RX6, "welcome", "(IIIII)V"⟩
abbrev cX6_sightBits : ByteArray := prog_8_method_9_code
def yX6_sightBits : MethodName := ⟨RX6, "sightBits", "()I"⟩
abbrev cX6_copyFrom : ByteArray := prog_8_method_10_code
def yX6_copyFrom : MethodName := ⟨RX6, "copyFrom", "(LSevenPlates$Table;)V"⟩
def RX7 : String := "SevenPlates$Twos"
def TX7 : u_T := fun k => match k with
  | 0 => ("SevenPlates$Twos", "table", "LSevenPlates$Table;", true)
  | 1 => ("SevenPlates$Twos", "course", "LSevenPlates$Course;", true)
  | _ => ("SevenPlates$Twos", "doing", "[I", true)
def tyX7 : Nat → FieldType := fun k => match k with
  | 0 => .object "SevenPlates$Table"
  | 1 => .object "SevenPlates$Course"
  | _ => .array .int
abbrev wsX70 : List Cond := u_ws RX7 TX7 3
theorem nmX7 : ∀ a, a < 3 → ∀ b, b < 3 → a ≠ b → (TX7 a).2.1 ≠ (TX7 b).2.1 := by decide +kernel
theorem tyX7_ok : ∀ k, k < 3 → parseFieldDescriptor (TX7 k).2.2.1 = some (tyX7 k) := by decide +kernel
abbrev cX7_init : ByteArray := prog_9_method_1_code
def yX7_init : MethodName := ⟨RX7, "<init>", "(LSevenPlates$Table;LSevenPlates$Course;)V"⟩
abbrev cX7_areAlike : ByteArray := prog_9_method_2_code
def yX7_areAlike : MethodName := ⟨RX7, "areAlike", "(II)Z"⟩
abbrev cX7_howMany : ByteArray := prog_9_method_3_code
def yX7_howMany : MethodName := ⟨RX7, "howMany", "()I"⟩
abbrev cX7_atPlace : ByteArray := prog_9_method_4_code
def yX7_atPlace : MethodName := ⟨RX7, "atPlace", "(I)I"⟩
abbrev cX7_fewestLaidAnew : ByteArray := prog_9_method_5_code
def yX7_fewestLaidAnew : MethodName := ⟨RX7, "fewestLaidAnew", "()I"⟩
abbrev cX7_helps : ByteArray := prog_9_method_6_code
def yX7_helps : MethodName := ⟨RX7, "helps", "(II)Z"⟩
def RX8 : String := "SevenPlates"
def TX8 : u_T := fun k => match k with
  | 0 => ("SevenPlates", "now", "LSevenPlates$Table;", true)
  | 1 => ("SevenPlates", "images", "[LSevenPlates$Table;", true)
  | 2 => ("SevenPlates", "kept", "[Z", true)
  | 3 => ("SevenPlates", "pad", "LSevenPlates$Pad;", true)
  | 4 => ("SevenPlates", "course", "LSevenPlates$Course;", true)
  | 5 => ("SevenPlates", "evening", "LSevenPlates$Evening;", true)
  | 6 => ("SevenPlates", "fitting", "LSevenPlates$Rows;", true)
  | 7 => ("SevenPlates", "beliefs", "LSevenPlates$Beliefs;", true)
  | 8 => ("SevenPlates", "leavings", "LSevenPlates$Leavings;", true)
  | _ => ("SevenPlates", "twos", "LSevenPlates$Twos;", true)
def tyX8 : Nat → FieldType := fun k => match k with
  | 0 => .object "SevenPlates$Table"
  | 1 => .array (.object "SevenPlates$Table")
  | 2 => .array .boolean
  | 3 => .object "SevenPlates$Pad"
  | 4 => .object "SevenPlates$Course"
  | 5 => .object "SevenPlates$Evening"
  | 6 => .object "SevenPlates$Rows"
  | 7 => .object "SevenPlates$Beliefs"
  | 8 => .object "SevenPlates$Leavings"
  | _ => .object "SevenPlates$Twos"
abbrev wsX80 : List Cond := u_ws RX8 TX8 10
theorem nmX8 : ∀ a, a < 10 → ∀ b, b < 10 → a ≠ b → (TX8 a).2.1 ≠ (TX8 b).2.1 := by decide +kernel
theorem tyX8_ok : ∀ k, k < 10 → parseFieldDescriptor (TX8 k).2.2.1 = some (tyX8 k) := by decide +kernel
abbrev cX8_init : ByteArray := prog_1_method_1_code
def yX8_init : MethodName := ⟨RX8, "<init>", "()V"⟩
abbrev cX8_things : ByteArray := prog_1_method_2_code
def yX8_things : MethodName := ⟨RX8, "things", "(I)I"⟩
abbrev cX8_thing : ByteArray := prog_1_method_3_code
def yX8_thing : MethodName := ⟨RX8, "thing", "(III)I"⟩
abbrev cX8_guest : ByteArray := prog_1_method_4_code
def yX8_guest : MethodName := ⟨RX8, "guest", "(IIIII)I"⟩
abbrev cX8_leave : ByteArray := prog_1_method_5_code
def yX8_leave : MethodName := ⟨RX8, "leave", "(I)I"⟩
abbrev cX8_say : ByteArray := prog_1_method_6_code
def yX8_say : MethodName := ⟨RX8, "say", "(I)I"⟩
abbrev cX8_wipe : ByteArray := prog_1_method_7_code
def yX8_wipe : MethodName := ⟨RX8, "wipe", "()I"⟩
abbrev cX8_fault : ByteArray := prog_1_method_8_code
def yX8_fault : MethodName := ⟨RX8, "fault", "()I"⟩
abbrev cX8_judge : ByteArray := prog_1_method_9_code
def yX8_judge : MethodName := ⟨RX8, "judge", "(I)I"⟩
abbrev cX8_used : ByteArray := prog_1_method_10_code
def yX8_used : MethodName := ⟨RX8, "used", "(I)I"⟩
abbrev cX8_behind : ByteArray := prog_1_method_11_code
def yX8_behind : MethodName := ⟨RX8, "behind", "(II)I"⟩
abbrev cX8_done : ByteArray := prog_1_method_12_code
def yX8_done : MethodName := ⟨RX8, "done", "()I"⟩
abbrev cX8_state : ByteArray := prog_1_method_13_code
def yX8_state : MethodName := ⟨RX8, "state", "(II)I"⟩
abbrev cX8_eats : ByteArray := prog_1_method_14_code
def yX8_eats : MethodName := ⟨RX8, "eats", "(I)I"⟩
abbrev cX8_seen : ByteArray := prog_1_method_15_code
def yX8_seen : MethodName := ⟨RX8, "seen", "(II)I"⟩
abbrev cX8_forget : ByteArray := prog_1_method_16_code
def yX8_forget : MethodName := ⟨RX8, "forget", "()I"⟩
abbrev cX8_rows : ByteArray := prog_1_method_17_code
def yX8_rows : MethodName := ⟨RX8, "rows", "(II)I"⟩
abbrev cX8_cup : ByteArray := prog_1_method_18_code
def yX8_cup : MethodName := ⟨RX8, "cup", "(II)I"⟩
abbrev cX8_look : ByteArray := prog_1_method_19_code
def yX8_look : MethodName := ⟨RX8, "look", "(II)I"⟩
abbrev cX8_belief : ByteArray := prog_1_method_20_code
def yX8_belief : MethodName := ⟨RX8, "belief", "(III)J"⟩
abbrev cX8_alike : ByteArray := prog_1_method_21_code
def yX8_alike : MethodName := ⟨RX8, "alike", "(I)I"⟩
abbrev cX8_lay : ByteArray := prog_1_method_22_code
def yX8_lay : MethodName := ⟨RX8, "lay", "(I)I"⟩
abbrev cX8_hide : ByteArray := prog_1_method_23_code
def yX8_hide : MethodName := ⟨RX8, "hide", "()I"⟩
abbrev cX8_trace : ByteArray := prog_1_method_24_code
def yX8_trace : MethodName := ⟨RX8, "trace", "()I"⟩
abbrev cX8_lock : ByteArray := prog_1_method_25_code
def yX8_lock : MethodName := ⟨RX8, "lock", "(II)I"⟩
abbrev cX8_year : ByteArray := prog_1_method_26_code
def yX8_year : MethodName := ⟨RX8, "year", "(III)I"⟩
abbrev cX8_image : ByteArray := prog_1_method_27_code
def yX8_image : MethodName := ⟨RX8, "image", "(I)I"⟩
abbrev cX8_restore : ByteArray := prog_1_method_28_code
def yX8_restore : MethodName := ⟨RX8, "restore", "(I)I"⟩
abbrev cX8_told : ByteArray := prog_1_method_29_code
def yX8_told : MethodName := ⟨RX8, "told", "(I)I"⟩
abbrev cX8_toldOfThing : ByteArray := prog_1_method_30_code
def yX8_toldOfThing : MethodName := ⟨RX8, "toldOfThing", "(II)I"⟩
abbrev cX8_toldOfGuest : ByteArray := prog_1_method_31_code
def yX8_toldOfGuest : MethodName := ⟨RX8, "toldOfGuest", "(II)I"⟩
abbrev cX8_isRowLength : ByteArray := prog_1_method_32_code
def yX8_isRowLength : MethodName := ⟨RX8, "isRowLength", "(I)Z"⟩
abbrev cX8_runEvening : ByteArray := prog_1_method_33_code
def yX8_runEvening : MethodName := ⟨RX8, "runEvening", "()I"⟩
def RX9 : String := "SevenPlatesModel"
def TX9 : u_T := fun k => match k with
  | 0 => ("SevenPlatesModel", "things", "I", false)
  | 1 => ("SevenPlatesModel", "is", "[I", true)
  | 2 => ("SevenPlatesModel", "warm", "[I", true)
  | 3 => ("SevenPlatesModel", "sight", "[I", true)
  | 4 => ("SevenPlatesModel", "guests", "I", false)
  | 5 => ("SevenPlatesModel", "size", "[I", true)
  | 6 => ("SevenPlatesModel", "hunger", "[I", true)
  | 7 => ("SevenPlatesModel", "habit", "[I", true)
  | 8 => ("SevenPlatesModel", "often", "[I", true)
  | 9 => ("SevenPlatesModel", "pad", "[I", true)
  | 10 => ("SevenPlatesModel", "padMany", "I", false)
  | 11 => ("SevenPlatesModel", "lastUsed", "I", false)
  | 12 => ("SevenPlatesModel", "eaten", "I", false)
  | 13 => ("SevenPlatesModel", "hadLeft", "[I", true)
  | 14 => ("SevenPlatesModel", "hadWarm", "[I", true)
  | 15 => ("SevenPlatesModel", "badPart", "I", false)
  | 16 => ("SevenPlatesModel", "badWhy", "I", false)
  | 17 => ("SevenPlatesModel", "came", "I", false)
  | 18 => ("SevenPlatesModel", "usedIn", "[I", true)
  | 19 => ("SevenPlatesModel", "firstAt", "[I", true)
  | 20 => ("SevenPlatesModel", "lastAt", "[I", true)
  | 21 => ("SevenPlatesModel", "leaves", "[I", true)
  | 22 => ("SevenPlatesModel", "leavesWarm", "[I", true)
  | 23 => ("SevenPlatesModel", "row", "[I", true)
  | 24 => ("SevenPlatesModel", "rowGuests", "I", false)
  | 25 => ("SevenPlatesModel", "rowMany", "I", false)
  | 26 => ("SevenPlatesModel", "fewest", "I", false)
  | 27 => ("SevenPlatesModel", "sure", "I", false)
  | 28 => ("SevenPlatesModel", "maybe", "I", false)
  | 29 => ("SevenPlatesModel", "firstRow", "[I", true)
  | 30 => ("SevenPlatesModel", "cups", "[I", true)
  | 31 => ("SevenPlatesModel", "leftBy", "[I", true)
  | 32 => ("SevenPlatesModel", "alone", "[I", true)
  | 33 => ("SevenPlatesModel", "tables", "[I", true)
  | 34 => ("SevenPlatesModel", "kept", "[I", true)
  | 35 => ("SevenPlatesModel", "isKept", "[Z", true)
  | 36 => ("SevenPlatesModel", "keptAt", "I", false)
  | _ => ("SevenPlatesModel", "isWriting", "Z", false)
def tyX9 : Nat → FieldType := fun k => match k with
  | 0 => .int
  | 1 => .array .int
  | 2 => .array .int
  | 3 => .array .int
  | 4 => .int
  | 5 => .array .int
  | 6 => .array .int
  | 7 => .array .int
  | 8 => .array .int
  | 9 => .array .int
  | 10 => .int
  | 11 => .int
  | 12 => .int
  | 13 => .array .int
  | 14 => .array .int
  | 15 => .int
  | 16 => .int
  | 17 => .int
  | 18 => .array .int
  | 19 => .array .int
  | 20 => .array .int
  | 21 => .array .int
  | 22 => .array .int
  | 23 => .array .int
  | 24 => .int
  | 25 => .int
  | 26 => .int
  | 27 => .int
  | 28 => .int
  | 29 => .array .int
  | 30 => .array .int
  | 31 => .array .int
  | 32 => .array .int
  | 33 => .array .int
  | 34 => .array .int
  | 35 => .array .boolean
  | 36 => .int
  | _ => .boolean
abbrev wsX90 : List Cond := u_ws RX9 TX9 38
theorem nmX9 : ∀ a, a < 38 → ∀ b, b < 38 → a ≠ b → (TX9 a).2.1 ≠ (TX9 b).2.1 := by decide +kernel
theorem tyX9_ok : ∀ k, k < 38 → parseFieldDescriptor (TX9 k).2.2.1 = some (tyX9 k) := by decide +kernel
abbrev cX9_init : ByteArray := prog_11_method_1_code
def yX9_init : MethodName := ⟨RX9, "<init>", "()V"⟩
abbrev cX9_in : ByteArray := prog_11_method_3_code
def yX9_in : MethodName := ⟨RX9, "in", "(JJJ)Z"⟩
abbrev cX9_ones : ByteArray := prog_11_method_4_code
def yX9_ones : MethodName := ⟨RX9, "ones", "(I)I"⟩
abbrev cX9_at : ByteArray := prog_11_method_5_code
def yX9_at : MethodName := ⟨RX9, "at", "(II)I"⟩
abbrev cX9_begin : ByteArray := prog_11_method_6_code
def yX9_begin : MethodName := ⟨RX9, "begin", "(I)V"⟩
abbrev cX9_isThing : ByteArray := prog_11_method_7_code
def yX9_isThing : MethodName := ⟨RX9, "isThing", "(I)Z"⟩
abbrev cX9_isThere : ByteArray := prog_11_method_8_code
def yX9_isThere : MethodName := ⟨RX9, "isThere", "(I)Z"⟩
abbrev cX9_things : ByteArray := prog_11_method_9_code
def yX9_things : MethodName := ⟨RX9, "things", "(I)I"⟩
abbrev cX9_thing : ByteArray := prog_11_method_10_code
def yX9_thing : MethodName := ⟨RX9, "thing", "(III)I"⟩
abbrev cX9_guest : ByteArray := prog_11_method_11_code
def yX9_guest : MethodName := ⟨RX9, "guest", "(IIIII)I"⟩
abbrev cX9_leave : ByteArray := prog_11_method_12_code
def yX9_leave : MethodName := ⟨RX9, "leave", "(I)I"⟩
abbrev cX9_say : ByteArray := prog_11_method_13_code
def yX9_say : MethodName := ⟨RX9, "say", "(I)I"⟩
abbrev cX9_wipe : ByteArray := prog_11_method_14_code
def yX9_wipe : MethodName := ⟨RX9, "wipe", "()I"⟩
abbrev cX9_fault : ByteArray := prog_11_method_15_code
def yX9_fault : MethodName := ⟨RX9, "fault", "()I"⟩
abbrev cX9_isPassed : ByteArray := prog_11_method_16_code
def yX9_isPassed : MethodName := ⟨RX9, "isPassed", "(I)Z"⟩
abbrev cX9_likes : ByteArray := prog_11_method_17_code
def yX9_likes : MethodName := ⟨RX9, "likes", "(II)I"⟩
abbrev cX9_taken : ByteArray := prog_11_method_18_code
def yX9_taken : MethodName := ⟨RX9, "taken", "(I)I"⟩
abbrev cX9_use : ByteArray := prog_11_method_19_code
def yX9_use : MethodName := ⟨RX9, "use", "(II)V"⟩
abbrev cX9_keepNow : ByteArray := prog_11_method_20_code
def yX9_keepNow : MethodName := ⟨RX9, "keepNow", "()V"⟩
abbrev cX9_putBack : ByteArray := prog_11_method_21_code
def yX9_putBack : MethodName := ⟨RX9, "putBack", "()V"⟩
abbrev cX9_comeIn : ByteArray := prog_11_method_22_code
def yX9_comeIn : MethodName := ⟨RX9, "comeIn", "(II)V"⟩
abbrev cX9_passHour : ByteArray := prog_11_method_23_code
def yX9_passHour : MethodName := ⟨RX9, "passHour", "()V"⟩
abbrev cX9_goEvening : ByteArray := prog_11_method_24_code
def yX9_goEvening : MethodName := ⟨RX9, "goEvening", "()V"⟩
abbrev cX9_refusal : ByteArray := prog_11_method_25_code
def yX9_refusal : MethodName := ⟨RX9, "refusal", "()I"⟩
abbrev cX9_judge : ByteArray := prog_11_method_26_code
def yX9_judge : MethodName := ⟨RX9, "judge", "(I)I"⟩
abbrev cX9_used : ByteArray := prog_11_method_27_code
def yX9_used : MethodName := ⟨RX9, "used", "(I)I"⟩
abbrev cX9_behind : ByteArray := prog_11_method_28_code
def yX9_behind : MethodName := ⟨RX9, "behind", "(II)I"⟩
abbrev cX9_done : ByteArray := prog_11_method_29_code
def yX9_done : MethodName := ⟨RX9, "done", "()I"⟩
abbrev cX9_state : ByteArray := prog_11_method_30_code
def yX9_state : MethodName := ⟨RX9, "state", "(II)I"⟩
abbrev cX9_eats : ByteArray := prog_11_method_31_code
def yX9_eats : MethodName := ⟨RX9, "eats", "(I)I"⟩
abbrev cX9_sights : ByteArray := prog_11_method_32_code
def yX9_sights : MethodName := ⟨RX9, "sights", "()I"⟩
abbrev cX9_seen : ByteArray := prog_11_method_33_code
def yX9_seen : MethodName := ⟨RX9, "seen", "(II)I"⟩
abbrev cX9_forget : ByteArray := prog_11_method_34_code
def yX9_forget : MethodName := ⟨RX9, "forget", "()I"⟩
abbrev cX9_isSeenSo : ByteArray := prog_11_method_35_code
def yX9_isSeenSo : MethodName := ⟨RX9, "isSeenSo", "()Z"⟩
abbrev cX9_power : ByteArray := prog_11_method_36_code
def yX9_power : MethodName := ⟨RX9, "power", "(II)I"⟩
abbrev cX9_layRow : ByteArray := prog_11_method_37_code
def yX9_layRow : MethodName := ⟨RX9, "layRow", "(II)V"⟩
abbrev cX9_canGo : ByteArray := prog_11_method_38_code
def yX9_canGo : MethodName := ⟨RX9, "canGo", "(I)Z"⟩
abbrev cX9_countRow : ByteArray := prog_11_method_39_code
def yX9_countRow : MethodName := ⟨RX9, "countRow", "(I)V"⟩
abbrev cX9_goRows : ByteArray := prog_11_method_40_code
def yX9_goRows : MethodName := ⟨RX9, "goRows", "(I)V"⟩
abbrev cX9_rows : ByteArray := prog_11_method_41_code
def yX9_rows : MethodName := ⟨RX9, "rows", "(II)I"⟩
abbrev cX9_cup : ByteArray := prog_11_method_42_code
def yX9_cup : MethodName := ⟨RX9, "cup", "(II)I"⟩
abbrev cX9_mostLeft : ByteArray := prog_11_method_43_code
def yX9_mostLeft : MethodName := ⟨RX9, "mostLeft", "(I)I"⟩
abbrev cX9_look : ByteArray := prog_11_method_44_code
def yX9_look : MethodName := ⟨RX9, "look", "(II)I"⟩
abbrev cX9_lowest : ByteArray := prog_11_method_45_code
def yX9_lowest : MethodName := ⟨RX9, "lowest", "(JJI)J"⟩
abbrev cX9_weightOf : ByteArray := prog_11_method_46_code
def yX9_weightOf : MethodName := ⟨RX9, "weightOf", "(I)J"⟩
abbrev cX9_belief : ByteArray := prog_11_method_47_code
def yX9_belief : MethodName := ⟨RX9, "belief", "(III)J"⟩
abbrev cX9_tableNow : ByteArray := prog_11_method_48_code
def yX9_tableNow : MethodName := ⟨RX9, "tableNow", "()I"⟩
abbrev cX9_findAlone : ByteArray := prog_11_method_49_code
def yX9_findAlone : MethodName := ⟨RX9, "findAlone", "()V"⟩
abbrev cX9_alike : ByteArray := prog_11_method_50_code
def yX9_alike : MethodName := ⟨RX9, "alike", "(I)I"⟩
abbrev cX9_areApart : ByteArray := prog_11_method_51_code
def yX9_areApart : MethodName := ⟨RX9, "areApart", "()Z"⟩
abbrev cX9_canBeLaid : ByteArray := prog_11_method_52_code
def yX9_canBeLaid : MethodName := ⟨RX9, "canBeLaid", "(II)Z"⟩
abbrev cX9_laidSet : ByteArray := prog_11_method_53_code
def yX9_laidSet : MethodName := ⟨RX9, "laidSet", "()I"⟩
abbrev cX9_lay : ByteArray := prog_11_method_54_code
def yX9_lay : MethodName := ⟨RX9, "lay", "(I)I"⟩
abbrev cX9_hide : ByteArray := prog_11_method_55_code
def yX9_hide : MethodName := ⟨RX9, "hide", "()I"⟩
abbrev cX9_isLeftSo : ByteArray := prog_11_method_56_code
def yX9_isLeftSo : MethodName := ⟨RX9, "isLeftSo", "()Z"⟩
abbrev cX9_trace : ByteArray := prog_11_method_57_code
def yX9_trace : MethodName := ⟨RX9, "trace", "()I"⟩
abbrev cX9_lock : ByteArray := prog_11_method_58_code
def yX9_lock : MethodName := ⟨RX9, "lock", "(II)I"⟩
abbrev cX9_year : ByteArray := prog_11_method_59_code
def yX9_year : MethodName := ⟨RX9, "year", "(III)I"⟩
abbrev cX9_pass : ByteArray := prog_11_method_60_code
def yX9_pass : MethodName := ⟨RX9, "pass", "(I)I"⟩
abbrev cX9_passAll : ByteArray := prog_11_method_61_code
def yX9_passAll : MethodName := ⟨RX9, "passAll", "()V"⟩
abbrev cX9_image : ByteArray := prog_11_method_62_code
def yX9_image : MethodName := ⟨RX9, "image", "(I)I"⟩
abbrev cX9_restore : ByteArray := prog_11_method_63_code
def yX9_restore : MethodName := ⟨RX9, "restore", "(I)I"⟩
abbrev cX9_toldOfThing : ByteArray := prog_11_method_64_code
def yX9_toldOfThing : MethodName := ⟨RX9, "toldOfThing", "(II)I"⟩
abbrev cX9_toldOfGuest : ByteArray := prog_11_method_65_code
def yX9_toldOfGuest : MethodName := ⟨RX9, "toldOfGuest", "(II)I"⟩
abbrev cX9_told : ByteArray := prog_11_method_66_code
def yX9_told : MethodName := ⟨RX9, "told", "(I)I"⟩
def RJ6 : String := "java/lang/Integer"
def TJ6 : u_T := fun k => match k with
  | _ => ("", "", "", false)
def tyJ6 : Nat → FieldType := fun k => match k with
  | _ => .int
abbrev wsJ60 : List Cond := u_ws RJ6 TJ6 0
theorem nmJ6 : ∀ a, a < 0 → ∀ b, b < 0 → a ≠ b → (TJ6 a).2.1 ≠ (TJ6 b).2.1 := by decide +kernel
theorem tyJ6_ok : ∀ k, k < 0 → parseFieldDescriptor (TJ6 k).2.2.1 = some (tyJ6 k) := by decide +kernel
abbrev cJ6_bitCount_0f7a4 : ByteArray := prog_12_method_49_code
def yJ6_bitCount_0f7a4 : MethodName := ⟨RJ6, "bitCount", "(I)I"⟩
def RJ9 : String := "java/lang/Math"
def TJ9 : u_T := fun k => match k with
  | _ => ("", "", "", false)
def tyJ9 : Nat → FieldType := fun k => match k with
  | _ => .int
abbrev wsJ90 : List Cond := u_ws RJ9 TJ9 0
theorem nmJ9 : ∀ a, a < 0 → ∀ b, b < 0 → a ≠ b → (TJ9 a).2.1 ≠ (TJ9 b).2.1 := by decide +kernel
theorem tyJ9_ok : ∀ k, k < 0 → parseFieldDescriptor (TJ9 k).2.2.1 = some (tyJ9 k) := by decide +kernel
abbrev cJ9_abs_0f7a4 : ByteArray := prog_13_method_59_code
def yJ9_abs_0f7a4 : MethodName := ⟨RJ9, "abs", "(I)I"⟩
abbrev cJ9_max_7cf53 : ByteArray := prog_13_method_65_code
def yJ9_max_7cf53 : MethodName := ⟨RJ9, "max", "(II)I"⟩
abbrev cJ9_min_7cf53 : ByteArray := prog_13_method_69_code
def yJ9_min_7cf53 : MethodName := ⟨RJ9, "min", "(II)I"⟩
def RJ10 : String := "java/lang/System"
def TJ10 : u_T := fun k => match k with
  | _ => ("", "", "", false)
def tyJ10 : Nat → FieldType := fun k => match k with
  | _ => .int
abbrev wsJ100 : List Cond := u_ws RJ10 TJ10 0
theorem nmJ10 : ∀ a, a < 0 → ∀ b, b < 0 → a ≠ b → (TJ10 a).2.1 ≠ (TJ10 b).2.1 := by decide +kernel
theorem tyJ10_ok : ∀ k, k < 0 → parseFieldDescriptor (TJ10 k).2.2.1 = some (tyJ10 k) := by decide +kernel
def RJ7 : String := "java/util/Arrays"
def TJ7 : u_T := fun k => match k with
  | _ => ("", "", "", false)
def tyJ7 : Nat → FieldType := fun k => match k with
  | _ => .int
abbrev wsJ70 : List Cond := u_ws RJ7 TJ7 0
theorem nmJ7 : ∀ a, a < 0 → ∀ b, b < 0 → a ≠ b → (TJ7 a).2.1 ≠ (TJ7 b).2.1 := by decide +kernel
theorem tyJ7_ok : ∀ k, k < 0 → parseFieldDescriptor (TJ7 k).2.2.1 = some (tyJ7 k) := by decide +kernel
abbrev cJ7_fill_53178 : ByteArray := prog_15_method_103_code
def yJ7_fill_53178 : MethodName := ⟨RJ7, "fill", "([II)V"⟩
def RL : String := "SevenPlatesLaw"
abbrev cL_law : ByteArray := code
def yL_law : MethodName := ⟨RL, "law", "([I)Z"⟩
abbrev vwCl : List vw_C := [(RX0, TX0, 4), (RX1, TX1, 4), (RX2, TX2, 11), (RX3, TX3, 3), (RX4, TX4, 2), (RX5, TX5, 12), (RX6, TX6, 12), (RX7, TX7, 3), (RX8, TX8, 10), (RX9, TX9, 38)]
end
section
theorem dX0_init_0 : decode cX0_init 0 = .ok (.aload_n 0, 1) := by decide +kernel
theorem dX0_init_1 : decode cX0_init 1 = .ok (.invokespecial 3, 3) := by decide +kernel
theorem dX0_init_4 : decode cX0_init 4 = .ok (.aload_n 0, 1) := by decide +kernel
theorem dX0_init_5 : decode cX0_init 5 = .ok (.aload_n 1, 1) := by decide +kernel
theorem dX0_init_6 : decode cX0_init 6 = .ok (.putfield 9, 3) := by decide +kernel
theorem dX0_init_9 : decode cX0_init 9 = .ok (.aload_n 0, 1) := by decide +kernel
theorem dX0_init_10 : decode cX0_init 10 = .ok (.aload_n 2, 1) := by decide +kernel
theorem dX0_init_11 : decode cX0_init 11 = .ok (.putfield 15, 3) := by decide +kernel
theorem dX0_init_14 : decode cX0_init 14 = .ok (.return_, 1) := by decide +kernel
theorem dX0_weigh_0 : decode cX0_weigh 0 = .ok (.iconst 0, 1) := by decide +kernel
theorem dX0_weigh_1 : decode cX0_weigh 1 = .ok (.istore_n 3, 1) := by decide +kernel
theorem dX0_weigh_2 : decode cX0_weigh 2 = .ok (.iconst 0, 1) := by decide +kernel
theorem dX0_weigh_3 : decode cX0_weigh 3 = .ok (.istore 4, 2) := by decide +kernel
theorem dX0_weigh_5 : decode cX0_weigh 5 = .ok (.iload 4, 2) := by decide +kernel
theorem dX0_weigh_7 : decode cX0_weigh 7 = .ok (.iconst 4, 1) := by decide +kernel
theorem dX0_weigh_8 : decode cX0_weigh 8 = .ok (.if_icmp .ge 34, 3) := by decide +kernel
theorem dX0_weigh_11 : decode cX0_weigh 11 = .ok (.aload_n 0, 1) := by decide +kernel
theorem dX0_weigh_12 : decode cX0_weigh 12 = .ok (.getfield 9, 3) := by decide +kernel
theorem dX0_weigh_15 : decode cX0_weigh 15 = .ok (.iload 4, 2) := by decide +kernel
theorem dX0_weigh_17 : decode cX0_weigh 17 = .ok (.invokevirtual 19, 3) := by decide +kernel
theorem dX0_weigh_20 : decode cX0_weigh 20 = .ok (.ifCond .eq 16, 3) := by decide +kernel
theorem dX0_weigh_23 : decode cX0_weigh 23 = .ok (.iload_n 3, 1) := by decide +kernel
theorem dX0_weigh_24 : decode cX0_weigh 24 = .ok (.aload_n 0, 1) := by decide +kernel
theorem dX0_weigh_25 : decode cX0_weigh 25 = .ok (.getfield 9, 3) := by decide +kernel
theorem dX0_weigh_28 : decode cX0_weigh 28 = .ok (.getfield 25, 3) := by decide +kernel
theorem dX0_weigh_31 : decode cX0_weigh 31 = .ok (.iload 4, 2) := by decide +kernel
theorem dX0_weigh_33 : decode cX0_weigh 33 = .ok (.iaload, 1) := by decide +kernel
theorem dX0_weigh_34 : decode cX0_weigh 34 = .ok (.iadd, 1) := by decide +kernel
theorem dX0_weigh_35 : decode cX0_weigh 35 = .ok (.istore_n 3, 1) := by decide +kernel
theorem dX0_weigh_36 : decode cX0_weigh 36 = .ok (.iinc 4 1, 3) := by decide +kernel
theorem dX0_weigh_39 : decode cX0_weigh 39 = .ok (.goto (-34), 3) := by decide +kernel
theorem dX0_weigh_42 : decode cX0_weigh 42 = .ok (.aload_n 0, 1) := by decide +kernel
theorem dX0_weigh_43 : decode cX0_weigh 43 = .ok (.lconst 1, 1) := by decide +kernel
theorem dX0_weigh_44 : decode cX0_weigh 44 = .ok (.putfield 29, 3) := by decide +kernel
theorem dX0_weigh_47 : decode cX0_weigh 47 = .ok (.iconst 0, 1) := by decide +kernel
theorem dX0_weigh_48 : decode cX0_weigh 48 = .ok (.istore 4, 2) := by decide +kernel
theorem dX0_weigh_50 : decode cX0_weigh 50 = .ok (.iload 4, 2) := by decide +kernel
theorem dX0_weigh_52 : decode cX0_weigh 52 = .ok (.iload_n 1, 1) := by decide +kernel
theorem dX0_weigh_53 : decode cX0_weigh 53 = .ok (.if_icmp .ge 20, 3) := by decide +kernel
theorem dX0_weigh_56 : decode cX0_weigh 56 = .ok (.aload_n 0, 1) := by decide +kernel
theorem dX0_weigh_57 : decode cX0_weigh 57 = .ok (.dup, 1) := by decide +kernel
theorem dX0_weigh_58 : decode cX0_weigh 58 = .ok (.getfield 29, 3) := by decide +kernel
theorem dX0_weigh_61 : decode cX0_weigh 61 = .ok (.iload_n 3, 1) := by decide +kernel
theorem dX0_weigh_62 : decode cX0_weigh 62 = .ok (.i2l, 1) := by decide +kernel
theorem dX0_weigh_63 : decode cX0_weigh 63 = .ok (.lmul, 1) := by decide +kernel
theorem dX0_weigh_64 : decode cX0_weigh 64 = .ok (.putfield 29, 3) := by decide +kernel
theorem dX0_weigh_67 : decode cX0_weigh 67 = .ok (.iinc 4 1, 3) := by decide +kernel
theorem dX0_weigh_70 : decode cX0_weigh 70 = .ok (.goto (-20), 3) := by decide +kernel
theorem dX0_weigh_73 : decode cX0_weigh 73 = .ok (.aload_n 0, 1) := by decide +kernel
theorem dX0_weigh_74 : decode cX0_weigh 74 = .ok (.getfield 15, 3) := by decide +kernel
theorem dX0_weigh_77 : decode cX0_weigh 77 = .ok (.invokevirtual 33, 3) := by decide +kernel
theorem dX0_weigh_80 : decode cX0_weigh 80 = .ok (.aload_n 0, 1) := by decide +kernel
theorem dX0_weigh_81 : decode cX0_weigh 81 = .ok (.iload_n 1, 1) := by decide +kernel
theorem dX0_weigh_82 : decode cX0_weigh 82 = .ok (.ifCond .ne 12, 3) := by decide +kernel
theorem dX0_weigh_85 : decode cX0_weigh 85 = .ok (.iload_n 2, 1) := by decide +kernel
theorem dX0_weigh_86 : decode cX0_weigh 86 = .ok (.iconst (-1), 1) := by decide +kernel
theorem dX0_weigh_87 : decode cX0_weigh 87 = .ok (.if_icmp .eq 7, 3) := by decide +kernel
theorem dX0_weigh_90 : decode cX0_weigh 90 = .ok (.lconst 0, 1) := by decide +kernel
theorem dX0_weigh_91 : decode cX0_weigh 91 = .ok (.goto 14, 3) := by decide +kernel
theorem dX0_weigh_94 : decode cX0_weigh 94 = .ok (.aload_n 0, 1) := by decide +kernel
theorem dX0_weigh_95 : decode cX0_weigh 95 = .ok (.iload_n 1, 1) := by decide +kernel
theorem dX0_weigh_96 : decode cX0_weigh 96 = .ok (.bipush 6, 2) := by decide +kernel
theorem dX0_weigh_98 : decode cX0_weigh 98 = .ok (.invokestatic 38, 3) := by decide +kernel
theorem dX0_weigh_101 : decode cX0_weigh 101 = .ok (.iload_n 2, 1) := by decide +kernel
theorem dX0_weigh_102 : decode cX0_weigh 102 = .ok (.invokevirtual 44, 3) := by decide +kernel
theorem dX0_weigh_105 : decode cX0_weigh 105 = .ok (.putfield 48, 3) := by decide +kernel
theorem dX0_weigh_108 : decode cX0_weigh 108 = .ok (.aload_n 0, 1) := by decide +kernel
theorem dX0_weigh_109 : decode cX0_weigh 109 = .ok (.invokevirtual 51, 3) := by decide +kernel
theorem dX0_weigh_112 : decode cX0_weigh 112 = .ok (.return_, 1) := by decide +kernel
theorem dX0_ways_0 : decode cX0_ways 0 = .ok (.aload_n 0, 1) := by decide +kernel
theorem dX0_ways_1 : decode cX0_ways 1 = .ok (.getfield 15, 3) := by decide +kernel
theorem dX0_ways_4 : decode cX0_ways 4 = .ok (.aload_n 0, 1) := by decide +kernel
theorem dX0_ways_5 : decode cX0_ways 5 = .ok (.getfield 9, 3) := by decide +kernel
theorem dX0_ways_8 : decode cX0_ways 8 = .ok (.getfield 54, 3) := by decide +kernel
theorem dX0_ways_11 : decode cX0_ways 11 = .ok (.invokevirtual 57, 3) := by decide +kernel
theorem dX0_ways_14 : decode cX0_ways 14 = .ok (.istore_n 3, 1) := by decide +kernel
theorem dX0_ways_15 : decode cX0_ways 15 = .ok (.iload_n 3, 1) := by decide +kernel
theorem dX0_ways_16 : decode cX0_ways 16 = .ok (.bipush (-6), 2) := by decide +kernel
theorem dX0_ways_18 : decode cX0_ways 18 = .ok (.if_icmp .ne 5, 3) := by decide +kernel
theorem dX0_ways_21 : decode cX0_ways 21 = .ok (.lconst 0, 1) := by decide +kernel
theorem dX0_ways_22 : decode cX0_ways 22 = .ok (.lreturn, 1) := by decide +kernel
theorem dX0_ways_23 : decode cX0_ways 23 = .ok (.iload_n 1, 1) := by decide +kernel
theorem dX0_ways_24 : decode cX0_ways 24 = .ok (.ifCond .gt 13, 3) := by decide +kernel
theorem dX0_ways_27 : decode cX0_ways 27 = .ok (.iload_n 3, 1) := by decide +kernel
theorem dX0_ways_28 : decode cX0_ways 28 = .ok (.ifCond .ne 7, 3) := by decide +kernel
theorem dX0_ways_31 : decode cX0_ways 31 = .ok (.lconst 1, 1) := by decide +kernel
theorem dX0_ways_32 : decode cX0_ways 32 = .ok (.goto 4, 3) := by decide +kernel
theorem dX0_ways_35 : decode cX0_ways 35 = .ok (.lconst 0, 1) := by decide +kernel
theorem dX0_ways_36 : decode cX0_ways 36 = .ok (.lreturn, 1) := by decide +kernel
theorem dX0_ways_37 : decode cX0_ways 37 = .ok (.lconst 0, 1) := by decide +kernel
theorem dX0_ways_38 : decode cX0_ways 38 = .ok (.lstore 4, 2) := by decide +kernel
theorem dX0_ways_40 : decode cX0_ways 40 = .ok (.iconst 0, 1) := by decide +kernel
theorem dX0_ways_41 : decode cX0_ways 41 = .ok (.istore 6, 2) := by decide +kernel
theorem dX0_ways_43 : decode cX0_ways 43 = .ok (.iload 6, 2) := by decide +kernel
theorem dX0_ways_45 : decode cX0_ways 45 = .ok (.iconst 4, 1) := by decide +kernel
theorem dX0_ways_46 : decode cX0_ways 46 = .ok (.if_icmp .ge 107, 3) := by decide +kernel
theorem dX0_ways_49 : decode cX0_ways 49 = .ok (.aload_n 0, 1) := by decide +kernel
theorem dX0_ways_50 : decode cX0_ways 50 = .ok (.getfield 9, 3) := by decide +kernel
theorem dX0_ways_53 : decode cX0_ways 53 = .ok (.iload 6, 2) := by decide +kernel
theorem dX0_ways_55 : decode cX0_ways 55 = .ok (.invokevirtual 19, 3) := by decide +kernel
theorem dX0_ways_58 : decode cX0_ways 58 = .ok (.ifCond .eq 89, 3) := by decide +kernel
theorem dX0_ways_61 : decode cX0_ways 61 = .ok (.iload_n 2, 1) := by decide +kernel
theorem dX0_ways_62 : decode cX0_ways 62 = .ok (.iconst (-1), 1) := by decide +kernel
theorem dX0_ways_63 : decode cX0_ways 63 = .ok (.if_icmp .eq 12, 3) := by decide +kernel
theorem dX0_ways_66 : decode cX0_ways 66 = .ok (.iload_n 2, 1) := by decide +kernel
theorem dX0_ways_67 : decode cX0_ways 67 = .ok (.iload 6, 2) := by decide +kernel
theorem dX0_ways_69 : decode cX0_ways 69 = .ok (.if_icmp .eq 6, 3) := by decide +kernel
theorem dX0_ways_72 : decode cX0_ways 72 = .ok (.goto 75, 3) := by decide +kernel
theorem dX0_ways_75 : decode cX0_ways 75 = .ok (.aload_n 0, 1) := by decide +kernel
theorem dX0_ways_76 : decode cX0_ways 76 = .ok (.getfield 15, 3) := by decide +kernel
theorem dX0_ways_79 : decode cX0_ways 79 = .ok (.getfield 61, 3) := by decide +kernel
theorem dX0_ways_82 : decode cX0_ways 82 = .ok (.istore 7, 2) := by decide +kernel
theorem dX0_ways_84 : decode cX0_ways 84 = .ok (.aload_n 0, 1) := by decide +kernel
theorem dX0_ways_85 : decode cX0_ways 85 = .ok (.getfield 15, 3) := by decide +kernel
theorem dX0_ways_88 : decode cX0_ways 88 = .ok (.iload 6, 2) := by decide +kernel
theorem dX0_ways_90 : decode cX0_ways 90 = .ok (.invokevirtual 65, 3) := by decide +kernel
theorem dX0_ways_93 : decode cX0_ways 93 = .ok (.istore 8, 2) := by decide +kernel
theorem dX0_ways_95 : decode cX0_ways 95 = .ok (.aload_n 0, 1) := by decide +kernel
theorem dX0_ways_96 : decode cX0_ways 96 = .ok (.getfield 15, 3) := by decide +kernel
theorem dX0_ways_99 : decode cX0_ways 99 = .ok (.getfield 61, 3) := by decide +kernel
theorem dX0_ways_102 : decode cX0_ways 102 = .ok (.istore 9, 2) := by decide +kernel
theorem dX0_ways_104 : decode cX0_ways 104 = .ok (.lload 4, 2) := by decide +kernel
theorem dX0_ways_106 : decode cX0_ways 106 = .ok (.aload_n 0, 1) := by decide +kernel
theorem dX0_ways_107 : decode cX0_ways 107 = .ok (.getfield 9, 3) := by decide +kernel
theorem dX0_ways_110 : decode cX0_ways 110 = .ok (.getfield 25, 3) := by decide +kernel
theorem dX0_ways_113 : decode cX0_ways 113 = .ok (.iload 6, 2) := by decide +kernel
theorem dX0_ways_115 : decode cX0_ways 115 = .ok (.iaload, 1) := by decide +kernel
theorem dX0_ways_116 : decode cX0_ways 116 = .ok (.i2l, 1) := by decide +kernel
theorem dX0_ways_117 : decode cX0_ways 117 = .ok (.aload_n 0, 1) := by decide +kernel
theorem dX0_ways_118 : decode cX0_ways 118 = .ok (.iload_n 1, 1) := by decide +kernel
theorem dX0_ways_119 : decode cX0_ways 119 = .ok (.iconst 1, 1) := by decide +kernel
theorem dX0_ways_120 : decode cX0_ways 120 = .ok (.isub, 1) := by decide +kernel
theorem dX0_ways_121 : decode cX0_ways 121 = .ok (.iconst (-1), 1) := by decide +kernel
theorem dX0_ways_122 : decode cX0_ways 122 = .ok (.invokevirtual 44, 3) := by decide +kernel
theorem dX0_ways_125 : decode cX0_ways 125 = .ok (.lmul, 1) := by decide +kernel
theorem dX0_ways_126 : decode cX0_ways 126 = .ok (.ladd, 1) := by decide +kernel
theorem dX0_ways_127 : decode cX0_ways 127 = .ok (.lstore 4, 2) := by decide +kernel
theorem dX0_ways_129 : decode cX0_ways 129 = .ok (.iload 8, 2) := by decide +kernel
theorem dX0_ways_131 : decode cX0_ways 131 = .ok (.ifCond .le 16, 3) := by decide +kernel
theorem dX0_ways_134 : decode cX0_ways 134 = .ok (.aload_n 0, 1) := by decide +kernel
theorem dX0_ways_135 : decode cX0_ways 135 = .ok (.getfield 15, 3) := by decide +kernel
theorem dX0_ways_138 : decode cX0_ways 138 = .ok (.iload 9, 2) := by decide +kernel
theorem dX0_ways_140 : decode cX0_ways 140 = .ok (.iload 8, 2) := by decide +kernel
theorem dX0_ways_142 : decode cX0_ways 142 = .ok (.iload 7, 2) := by decide +kernel
theorem dX0_ways_144 : decode cX0_ways 144 = .ok (.invokevirtual 69, 3) := by decide +kernel
theorem dX0_ways_147 : decode cX0_ways 147 = .ok (.iinc 6 1, 3) := by decide +kernel
theorem dX0_ways_150 : decode cX0_ways 150 = .ok (.goto (-107), 3) := by decide +kernel
theorem dX0_ways_153 : decode cX0_ways 153 = .ok (.lload 4, 2) := by decide +kernel
theorem dX0_ways_155 : decode cX0_ways 155 = .ok (.lreturn, 1) := by decide +kernel
theorem dX0_reduce_0 : decode cX0_reduce 0 = .ok (.aload_n 0, 1) := by decide +kernel
theorem dX0_reduce_1 : decode cX0_reduce 1 = .ok (.getfield 48, 3) := by decide +kernel
theorem dX0_reduce_4 : decode cX0_reduce 4 = .ok (.lstore_n 1, 1) := by decide +kernel
theorem dX0_reduce_5 : decode cX0_reduce 5 = .ok (.aload_n 0, 1) := by decide +kernel
theorem dX0_reduce_6 : decode cX0_reduce 6 = .ok (.getfield 29, 3) := by decide +kernel
theorem dX0_reduce_9 : decode cX0_reduce 9 = .ok (.lstore_n 3, 1) := by decide +kernel
theorem dX0_reduce_10 : decode cX0_reduce 10 = .ok (.iconst 0, 1) := by decide +kernel
theorem dX0_reduce_11 : decode cX0_reduce 11 = .ok (.istore 5, 2) := by decide +kernel
theorem dX0_reduce_13 : decode cX0_reduce 13 = .ok (.iload 5, 2) := by decide +kernel
theorem dX0_reduce_15 : decode cX0_reduce 15 = .ok (.bipush 100, 2) := by decide +kernel
theorem dX0_reduce_17 : decode cX0_reduce 17 = .ok (.if_icmp .ge 25, 3) := by decide +kernel
theorem dX0_reduce_20 : decode cX0_reduce 20 = .ok (.lload_n 3, 1) := by decide +kernel
theorem dX0_reduce_21 : decode cX0_reduce 21 = .ok (.lconst 0, 1) := by decide +kernel
theorem dX0_reduce_22 : decode cX0_reduce 22 = .ok (.lcmp, 1) := by decide +kernel
theorem dX0_reduce_23 : decode cX0_reduce 23 = .ok (.ifCond .eq 19, 3) := by decide +kernel
theorem dX0_reduce_26 : decode cX0_reduce 26 = .ok (.lload_n 1, 1) := by decide +kernel
theorem dX0_reduce_27 : decode cX0_reduce 27 = .ok (.lload_n 3, 1) := by decide +kernel
theorem dX0_reduce_28 : decode cX0_reduce 28 = .ok (.lrem, 1) := by decide +kernel
theorem dX0_reduce_29 : decode cX0_reduce 29 = .ok (.lstore 6, 2) := by decide +kernel
theorem dX0_reduce_31 : decode cX0_reduce 31 = .ok (.lload_n 3, 1) := by decide +kernel
theorem dX0_reduce_32 : decode cX0_reduce 32 = .ok (.lstore_n 1, 1) := by decide +kernel
theorem dX0_reduce_33 : decode cX0_reduce 33 = .ok (.lload 6, 2) := by decide +kernel
theorem dX0_reduce_35 : decode cX0_reduce 35 = .ok (.lstore_n 3, 1) := by decide +kernel
theorem dX0_reduce_36 : decode cX0_reduce 36 = .ok (.iinc 5 1, 3) := by decide +kernel
theorem dX0_reduce_39 : decode cX0_reduce 39 = .ok (.goto (-26), 3) := by decide +kernel
theorem dX0_reduce_42 : decode cX0_reduce 42 = .ok (.lload_n 1, 1) := by decide +kernel
theorem dX0_reduce_43 : decode cX0_reduce 43 = .ok (.lconst 1, 1) := by decide +kernel
theorem dX0_reduce_44 : decode cX0_reduce 44 = .ok (.lcmp, 1) := by decide +kernel
theorem dX0_reduce_45 : decode cX0_reduce 45 = .ok (.ifCond .le 23, 3) := by decide +kernel
theorem dX0_reduce_48 : decode cX0_reduce 48 = .ok (.aload_n 0, 1) := by decide +kernel
theorem dX0_reduce_49 : decode cX0_reduce 49 = .ok (.dup, 1) := by decide +kernel
theorem dX0_reduce_50 : decode cX0_reduce 50 = .ok (.getfield 48, 3) := by decide +kernel
theorem dX0_reduce_53 : decode cX0_reduce 53 = .ok (.lload_n 1, 1) := by decide +kernel
theorem dX0_reduce_54 : decode cX0_reduce 54 = .ok (.ldiv, 1) := by decide +kernel
theorem dX0_reduce_55 : decode cX0_reduce 55 = .ok (.putfield 48, 3) := by decide +kernel
theorem dX0_reduce_58 : decode cX0_reduce 58 = .ok (.aload_n 0, 1) := by decide +kernel
theorem dX0_reduce_59 : decode cX0_reduce 59 = .ok (.dup, 1) := by decide +kernel
theorem dX0_reduce_60 : decode cX0_reduce 60 = .ok (.getfield 29, 3) := by decide +kernel
theorem dX0_reduce_63 : decode cX0_reduce 63 = .ok (.lload_n 1, 1) := by decide +kernel
theorem dX0_reduce_64 : decode cX0_reduce 64 = .ok (.ldiv, 1) := by decide +kernel
theorem dX0_reduce_65 : decode cX0_reduce 65 = .ok (.putfield 29, 3) := by decide +kernel
theorem dX0_reduce_68 : decode cX0_reduce 68 = .ok (.return_, 1) := by decide +kernel
theorem dX1_init_0 : decode cX1_init 0 = .ok (.aload_n 0, 1) := by decide +kernel
theorem dX1_init_1 : decode cX1_init 1 = .ok (.invokespecial 3, 3) := by decide +kernel
theorem dX1_init_4 : decode cX1_init 4 = .ok (.aload_n 0, 1) := by decide +kernel
theorem dX1_init_5 : decode cX1_init 5 = .ok (.bipush 7, 2) := by decide +kernel
theorem dX1_init_7 : decode cX1_init 7 = .ok (.newarray .int, 2) := by decide +kernel
theorem dX1_init_9 : decode cX1_init 9 = .ok (.putfield 9, 3) := by decide +kernel
theorem dX1_init_12 : decode cX1_init 12 = .ok (.aload_n 0, 1) := by decide +kernel
theorem dX1_init_13 : decode cX1_init 13 = .ok (.aload_n 1, 1) := by decide +kernel
theorem dX1_init_14 : decode cX1_init 14 = .ok (.putfield 15, 3) := by decide +kernel
theorem dX1_init_17 : decode cX1_init 17 = .ok (.return_, 1) := by decide +kernel
theorem dX1_begin_0 : decode cX1_begin 0 = .ok (.aload_n 0, 1) := by decide +kernel
theorem dX1_begin_1 : decode cX1_begin 1 = .ok (.getfield 15, 3) := by decide +kernel
theorem dX1_begin_4 : decode cX1_begin 4 = .ok (.getfield 19, 3) := by decide +kernel
theorem dX1_begin_7 : decode cX1_begin 7 = .ok (.iconst 0, 1) := by decide +kernel
theorem dX1_begin_8 : decode cX1_begin 8 = .ok (.aload_n 0, 1) := by decide +kernel
theorem dX1_begin_9 : decode cX1_begin 9 = .ok (.getfield 9, 3) := by decide +kernel
theorem dX1_begin_12 : decode cX1_begin 12 = .ok (.iconst 0, 1) := by decide +kernel
theorem dX1_begin_13 : decode cX1_begin 13 = .ok (.bipush 7, 2) := by decide +kernel
theorem dX1_begin_15 : decode cX1_begin 15 = .ok (.invokestatic 22, 3) := by decide +kernel
theorem dX1_begin_18 : decode cX1_begin 18 = .ok (.aload_n 0, 1) := by decide +kernel
theorem dX1_begin_19 : decode cX1_begin 19 = .ok (.aload_n 0, 1) := by decide +kernel
theorem dX1_begin_20 : decode cX1_begin 20 = .ok (.getfield 15, 3) := by decide +kernel
theorem dX1_begin_23 : decode cX1_begin 23 = .ok (.getfield 28, 3) := by decide +kernel
theorem dX1_begin_26 : decode cX1_begin 26 = .ok (.putfield 32, 3) := by decide +kernel
theorem dX1_begin_29 : decode cX1_begin 29 = .ok (.aload_n 0, 1) := by decide +kernel
theorem dX1_begin_30 : decode cX1_begin 30 = .ok (.bipush (-6), 2) := by decide +kernel
theorem dX1_begin_32 : decode cX1_begin 32 = .ok (.putfield 33, 3) := by decide +kernel
theorem dX1_begin_35 : decode cX1_begin 35 = .ok (.return_, 1) := by decide +kernel
theorem dX1_choice_0 : decode cX1_choice 0 = .ok (.bipush (-6), 2) := by decide +kernel
theorem dX1_choice_2 : decode cX1_choice 2 = .ok (.istore_n 2, 1) := by decide +kernel
theorem dX1_choice_3 : decode cX1_choice 3 = .ok (.iconst 0, 1) := by decide +kernel
theorem dX1_choice_4 : decode cX1_choice 4 = .ok (.istore_n 3, 1) := by decide +kernel
theorem dX1_choice_5 : decode cX1_choice 5 = .ok (.iconst 0, 1) := by decide +kernel
theorem dX1_choice_6 : decode cX1_choice 6 = .ok (.istore 4, 2) := by decide +kernel
theorem dX1_choice_8 : decode cX1_choice 8 = .ok (.iload 4, 2) := by decide +kernel
theorem dX1_choice_10 : decode cX1_choice 10 = .ok (.aload_n 0, 1) := by decide +kernel
theorem dX1_choice_11 : decode cX1_choice 11 = .ok (.getfield 15, 3) := by decide +kernel
theorem dX1_choice_14 : decode cX1_choice 14 = .ok (.getfield 36, 3) := by decide +kernel
theorem dX1_choice_17 : decode cX1_choice 17 = .ok (.if_icmp .ge 62, 3) := by decide +kernel
theorem dX1_choice_20 : decode cX1_choice 20 = .ok (.aload_n 0, 1) := by decide +kernel
theorem dX1_choice_21 : decode cX1_choice 21 = .ok (.getfield 32, 3) := by decide +kernel
theorem dX1_choice_24 : decode cX1_choice 24 = .ok (.iload 4, 2) := by decide +kernel
theorem dX1_choice_26 : decode cX1_choice 26 = .ok (.ishr, 1) := by decide +kernel
theorem dX1_choice_27 : decode cX1_choice 27 = .ok (.iconst 1, 1) := by decide +kernel
theorem dX1_choice_28 : decode cX1_choice 28 = .ok (.iand, 1) := by decide +kernel
theorem dX1_choice_29 : decode cX1_choice 29 = .ok (.iconst 1, 1) := by decide +kernel
theorem dX1_choice_30 : decode cX1_choice 30 = .ok (.if_icmp .eq 43, 3) := by decide +kernel
theorem dX1_choice_33 : decode cX1_choice 33 = .ok (.aload_n 0, 1) := by decide +kernel
theorem dX1_choice_34 : decode cX1_choice 34 = .ok (.getfield 9, 3) := by decide +kernel
theorem dX1_choice_37 : decode cX1_choice 37 = .ok (.iload 4, 2) := by decide +kernel
theorem dX1_choice_39 : decode cX1_choice 39 = .ok (.iaload, 1) := by decide +kernel
theorem dX1_choice_40 : decode cX1_choice 40 = .ok (.ifCond .ne 6, 3) := by decide +kernel
theorem dX1_choice_43 : decode cX1_choice 43 = .ok (.goto 30, 3) := by decide +kernel
theorem dX1_choice_46 : decode cX1_choice 46 = .ok (.aload_n 0, 1) := by decide +kernel
theorem dX1_choice_47 : decode cX1_choice 47 = .ok (.iload_n 1, 1) := by decide +kernel
theorem dX1_choice_48 : decode cX1_choice 48 = .ok (.iload 4, 2) := by decide +kernel
theorem dX1_choice_50 : decode cX1_choice 50 = .ok (.invokevirtual 39, 3) := by decide +kernel
theorem dX1_choice_53 : decode cX1_choice 53 = .ok (.istore 5, 2) := by decide +kernel
theorem dX1_choice_55 : decode cX1_choice 55 = .ok (.iload_n 2, 1) := by decide +kernel
theorem dX1_choice_56 : decode cX1_choice 56 = .ok (.bipush (-6), 2) := by decide +kernel
theorem dX1_choice_58 : decode cX1_choice 58 = .ok (.if_icmp .eq 9, 3) := by decide +kernel
theorem dX1_choice_61 : decode cX1_choice 61 = .ok (.iload 5, 2) := by decide +kernel
theorem dX1_choice_63 : decode cX1_choice 63 = .ok (.iload_n 3, 1) := by decide +kernel
theorem dX1_choice_64 : decode cX1_choice 64 = .ok (.if_icmp .ge 9, 3) := by decide +kernel
theorem dX1_choice_67 : decode cX1_choice 67 = .ok (.iload 4, 2) := by decide +kernel
theorem dX1_choice_69 : decode cX1_choice 69 = .ok (.istore_n 2, 1) := by decide +kernel
theorem dX1_choice_70 : decode cX1_choice 70 = .ok (.iload 5, 2) := by decide +kernel
theorem dX1_choice_72 : decode cX1_choice 72 = .ok (.istore_n 3, 1) := by decide +kernel
theorem dX1_choice_73 : decode cX1_choice 73 = .ok (.iinc 4 1, 3) := by decide +kernel
theorem dX1_choice_76 : decode cX1_choice 76 = .ok (.goto (-68), 3) := by decide +kernel
theorem dX1_choice_79 : decode cX1_choice 79 = .ok (.iload_n 2, 1) := by decide +kernel
theorem dX1_choice_80 : decode cX1_choice 80 = .ok (.ireturn, 1) := by decide +kernel
theorem dX1_rank_0 : decode cX1_rank 0 = .ok (.aload_n 0, 1) := by decide +kernel
theorem dX1_rank_1 : decode cX1_rank 1 = .ok (.getfield 15, 3) := by decide +kernel
theorem dX1_rank_4 : decode cX1_rank 4 = .ok (.getfield 43, 3) := by decide +kernel
theorem dX1_rank_7 : decode cX1_rank 7 = .ok (.iload_n 1, 1) := by decide +kernel
theorem dX1_rank_8 : decode cX1_rank 8 = .ok (.iaload, 1) := by decide +kernel
theorem dX1_rank_9 : decode cX1_rank 9 = .ok (.tableswitch 75 0 2 #[27, 50, 58], 27) := by decide +kernel
theorem dX1_rank_36 : decode cX1_rank 36 = .ok (.aload_n 0, 1) := by decide +kernel
theorem dX1_rank_37 : decode cX1_rank 37 = .ok (.getfield 15, 3) := by decide +kernel
theorem dX1_rank_40 : decode cX1_rank 40 = .ok (.getfield 46, 3) := by decide +kernel
theorem dX1_rank_43 : decode cX1_rank 43 = .ok (.iload_n 2, 1) := by decide +kernel
theorem dX1_rank_44 : decode cX1_rank 44 = .ok (.iaload, 1) := by decide +kernel
theorem dX1_rank_45 : decode cX1_rank 45 = .ok (.aload_n 0, 1) := by decide +kernel
theorem dX1_rank_46 : decode cX1_rank 46 = .ok (.getfield 15, 3) := by decide +kernel
theorem dX1_rank_49 : decode cX1_rank 49 = .ok (.getfield 49, 3) := by decide +kernel
theorem dX1_rank_52 : decode cX1_rank 52 = .ok (.iload_n 1, 1) := by decide +kernel
theorem dX1_rank_53 : decode cX1_rank 53 = .ok (.iaload, 1) := by decide +kernel
theorem dX1_rank_54 : decode cX1_rank 54 = .ok (.isub, 1) := by decide +kernel
theorem dX1_rank_55 : decode cX1_rank 55 = .ok (.invokestatic 52, 3) := by decide +kernel
theorem dX1_rank_58 : decode cX1_rank 58 = .ok (.ireturn, 1) := by decide +kernel
theorem dX1_rank_59 : decode cX1_rank 59 = .ok (.aload_n 0, 1) := by decide +kernel
theorem dX1_rank_60 : decode cX1_rank 60 = .ok (.getfield 9, 3) := by decide +kernel
theorem dX1_rank_63 : decode cX1_rank 63 = .ok (.iload_n 2, 1) := by decide +kernel
theorem dX1_rank_64 : decode cX1_rank 64 = .ok (.iaload, 1) := by decide +kernel
theorem dX1_rank_65 : decode cX1_rank 65 = .ok (.ineg, 1) := by decide +kernel
theorem dX1_rank_66 : decode cX1_rank 66 = .ok (.ireturn, 1) := by decide +kernel
theorem dX1_rank_67 : decode cX1_rank 67 = .ok (.iload_n 2, 1) := by decide +kernel
theorem dX1_rank_68 : decode cX1_rank 68 = .ok (.aload_n 0, 1) := by decide +kernel
theorem dX1_rank_69 : decode cX1_rank 69 = .ok (.getfield 33, 3) := by decide +kernel
theorem dX1_rank_72 : decode cX1_rank 72 = .ok (.if_icmp .le 7, 3) := by decide +kernel
theorem dX1_rank_75 : decode cX1_rank 75 = .ok (.iload_n 2, 1) := by decide +kernel
theorem dX1_rank_76 : decode cX1_rank 76 = .ok (.goto 7, 3) := by decide +kernel
theorem dX1_rank_79 : decode cX1_rank 79 = .ok (.iload_n 2, 1) := by decide +kernel
theorem dX1_rank_80 : decode cX1_rank 80 = .ok (.bipush 7, 2) := by decide +kernel
theorem dX1_rank_82 : decode cX1_rank 82 = .ok (.iadd, 1) := by decide +kernel
theorem dX1_rank_83 : decode cX1_rank 83 = .ok (.ireturn, 1) := by decide +kernel
theorem dX1_rank_84 : decode cX1_rank 84 = .ok (.aload_n 0, 1) := by decide +kernel
theorem dX1_rank_85 : decode cX1_rank 85 = .ok (.getfield 9, 3) := by decide +kernel
theorem dX1_rank_88 : decode cX1_rank 88 = .ok (.iload_n 2, 1) := by decide +kernel
theorem dX1_rank_89 : decode cX1_rank 89 = .ok (.iaload, 1) := by decide +kernel
theorem dX1_rank_90 : decode cX1_rank 90 = .ok (.aload_n 0, 1) := by decide +kernel
theorem dX1_rank_91 : decode cX1_rank 91 = .ok (.getfield 15, 3) := by decide +kernel
theorem dX1_rank_94 : decode cX1_rank 94 = .ok (.getfield 58, 3) := by decide +kernel
theorem dX1_rank_97 : decode cX1_rank 97 = .ok (.iload_n 1, 1) := by decide +kernel
theorem dX1_rank_98 : decode cX1_rank 98 = .ok (.iaload, 1) := by decide +kernel
theorem dX1_rank_99 : decode cX1_rank 99 = .ok (.if_icmp .lt 7, 3) := by decide +kernel
theorem dX1_rank_102 : decode cX1_rank 102 = .ok (.iconst 0, 1) := by decide +kernel
theorem dX1_rank_103 : decode cX1_rank 103 = .ok (.goto 4, 3) := by decide +kernel
theorem dX1_rank_106 : decode cX1_rank 106 = .ok (.iconst 1, 1) := by decide +kernel
theorem dX1_rank_107 : decode cX1_rank 107 = .ok (.ireturn, 1) := by decide +kernel
theorem dX1_use_0 : decode cX1_use 0 = .ok (.aload_n 0, 1) := by decide +kernel
theorem dX1_use_1 : decode cX1_use 1 = .ok (.iload_n 1, 1) := by decide +kernel
theorem dX1_use_2 : decode cX1_use 2 = .ok (.iload_n 2, 1) := by decide +kernel
theorem dX1_use_3 : decode cX1_use 3 = .ok (.invokevirtual 61, 3) := by decide +kernel
theorem dX1_use_6 : decode cX1_use 6 = .ok (.istore_n 3, 1) := by decide +kernel
theorem dX1_use_7 : decode cX1_use 7 = .ok (.aload_n 0, 1) := by decide +kernel
theorem dX1_use_8 : decode cX1_use 8 = .ok (.getfield 9, 3) := by decide +kernel
theorem dX1_use_11 : decode cX1_use 11 = .ok (.iload_n 2, 1) := by decide +kernel
theorem dX1_use_12 : decode cX1_use 12 = .ok (.dup2, 1) := by decide +kernel
theorem dX1_use_13 : decode cX1_use 13 = .ok (.iaload, 1) := by decide +kernel
theorem dX1_use_14 : decode cX1_use 14 = .ok (.iload_n 3, 1) := by decide +kernel
theorem dX1_use_15 : decode cX1_use 15 = .ok (.isub, 1) := by decide +kernel
theorem dX1_use_16 : decode cX1_use 16 = .ok (.iastore, 1) := by decide +kernel
theorem dX1_use_17 : decode cX1_use 17 = .ok (.aload_n 0, 1) := by decide +kernel
theorem dX1_use_18 : decode cX1_use 18 = .ok (.iload_n 2, 1) := by decide +kernel
theorem dX1_use_19 : decode cX1_use 19 = .ok (.putfield 33, 3) := by decide +kernel
theorem dX1_use_22 : decode cX1_use 22 = .ok (.iload_n 3, 1) := by decide +kernel
theorem dX1_use_23 : decode cX1_use 23 = .ok (.ireturn, 1) := by decide +kernel
theorem dX1_bite_0 : decode cX1_bite 0 = .ok (.aload_n 0, 1) := by decide +kernel
theorem dX1_bite_1 : decode cX1_bite 1 = .ok (.getfield 15, 3) := by decide +kernel
theorem dX1_bite_4 : decode cX1_bite 4 = .ok (.getfield 58, 3) := by decide +kernel
theorem dX1_bite_7 : decode cX1_bite 7 = .ok (.iload_n 1, 1) := by decide +kernel
theorem dX1_bite_8 : decode cX1_bite 8 = .ok (.iaload, 1) := by decide +kernel
theorem dX1_bite_9 : decode cX1_bite 9 = .ok (.aload_n 0, 1) := by decide +kernel
theorem dX1_bite_10 : decode cX1_bite 10 = .ok (.getfield 9, 3) := by decide +kernel
theorem dX1_bite_13 : decode cX1_bite 13 = .ok (.iload_n 2, 1) := by decide +kernel
theorem dX1_bite_14 : decode cX1_bite 14 = .ok (.iaload, 1) := by decide +kernel
theorem dX1_bite_15 : decode cX1_bite 15 = .ok (.invokestatic 64, 3) := by decide +kernel
theorem dX1_bite_18 : decode cX1_bite 18 = .ok (.ireturn, 1) := by decide +kernel
theorem dX1_takeBack_0 : decode cX1_takeBack 0 = .ok (.aload_n 0, 1) := by decide +kernel
theorem dX1_takeBack_1 : decode cX1_takeBack 1 = .ok (.getfield 9, 3) := by decide +kernel
theorem dX1_takeBack_4 : decode cX1_takeBack 4 = .ok (.iload_n 1, 1) := by decide +kernel
theorem dX1_takeBack_5 : decode cX1_takeBack 5 = .ok (.dup2, 1) := by decide +kernel
theorem dX1_takeBack_6 : decode cX1_takeBack 6 = .ok (.iaload, 1) := by decide +kernel
theorem dX1_takeBack_7 : decode cX1_takeBack 7 = .ok (.iload_n 2, 1) := by decide +kernel
theorem dX1_takeBack_8 : decode cX1_takeBack 8 = .ok (.iadd, 1) := by decide +kernel
theorem dX1_takeBack_9 : decode cX1_takeBack 9 = .ok (.iastore, 1) := by decide +kernel
theorem dX1_takeBack_10 : decode cX1_takeBack 10 = .ok (.aload_n 0, 1) := by decide +kernel
theorem dX1_takeBack_11 : decode cX1_takeBack 11 = .ok (.iload_n 3, 1) := by decide +kernel
theorem dX1_takeBack_12 : decode cX1_takeBack 12 = .ok (.putfield 33, 3) := by decide +kernel
theorem dX1_takeBack_15 : decode cX1_takeBack 15 = .ok (.return_, 1) := by decide +kernel
theorem dX1_visit_0 : decode cX1_visit 0 = .ok (.aload_n 0, 1) := by decide +kernel
theorem dX1_visit_1 : decode cX1_visit 1 = .ok (.getfield 15, 3) := by decide +kernel
theorem dX1_visit_4 : decode cX1_visit 4 = .ok (.iload_n 1, 1) := by decide +kernel
theorem dX1_visit_5 : decode cX1_visit 5 = .ok (.invokevirtual 67, 3) := by decide +kernel
theorem dX1_visit_8 : decode cX1_visit 8 = .ok (.ifCond .ne 5, 3) := by decide +kernel
theorem dX1_visit_11 : decode cX1_visit 11 = .ok (.iconst 0, 1) := by decide +kernel
theorem dX1_visit_12 : decode cX1_visit 12 = .ok (.ireturn, 1) := by decide +kernel
theorem dX1_visit_13 : decode cX1_visit 13 = .ok (.aload_n 0, 1) := by decide +kernel
theorem dX1_visit_14 : decode cX1_visit 14 = .ok (.iload_n 1, 1) := by decide +kernel
theorem dX1_visit_15 : decode cX1_visit 15 = .ok (.invokevirtual 71, 3) := by decide +kernel
theorem dX1_visit_18 : decode cX1_visit 18 = .ok (.istore_n 2, 1) := by decide +kernel
theorem dX1_visit_19 : decode cX1_visit 19 = .ok (.iload_n 2, 1) := by decide +kernel
theorem dX1_visit_20 : decode cX1_visit 20 = .ok (.bipush (-6), 2) := by decide +kernel
theorem dX1_visit_22 : decode cX1_visit 22 = .ok (.if_icmp .ne 7, 3) := by decide +kernel
theorem dX1_visit_25 : decode cX1_visit 25 = .ok (.iconst 0, 1) := by decide +kernel
theorem dX1_visit_26 : decode cX1_visit 26 = .ok (.goto 9, 3) := by decide +kernel
theorem dX1_visit_29 : decode cX1_visit 29 = .ok (.aload_n 0, 1) := by decide +kernel
theorem dX1_visit_30 : decode cX1_visit 30 = .ok (.iload_n 1, 1) := by decide +kernel
theorem dX1_visit_31 : decode cX1_visit 31 = .ok (.iload_n 2, 1) := by decide +kernel
theorem dX1_visit_32 : decode cX1_visit 32 = .ok (.invokevirtual 74, 3) := by decide +kernel
theorem dX1_visit_35 : decode cX1_visit 35 = .ok (.ireturn, 1) := by decide +kernel
theorem dX1_stillToEat_0 : decode cX1_stillToEat 0 = .ok (.iconst 0, 1) := by decide +kernel
theorem dX1_stillToEat_1 : decode cX1_stillToEat 1 = .ok (.istore_n 2, 1) := by decide +kernel
theorem dX1_stillToEat_2 : decode cX1_stillToEat 2 = .ok (.iconst 0, 1) := by decide +kernel
theorem dX1_stillToEat_3 : decode cX1_stillToEat 3 = .ok (.istore_n 3, 1) := by decide +kernel
theorem dX1_stillToEat_4 : decode cX1_stillToEat 4 = .ok (.iload_n 3, 1) := by decide +kernel
theorem dX1_stillToEat_5 : decode cX1_stillToEat 5 = .ok (.aload_n 0, 1) := by decide +kernel
theorem dX1_stillToEat_6 : decode cX1_stillToEat 6 = .ok (.getfield 15, 3) := by decide +kernel
theorem dX1_stillToEat_9 : decode cX1_stillToEat 9 = .ok (.getfield 36, 3) := by decide +kernel
theorem dX1_stillToEat_12 : decode cX1_stillToEat 12 = .ok (.if_icmp .ge 48, 3) := by decide +kernel
theorem dX1_stillToEat_15 : decode cX1_stillToEat 15 = .ok (.aload_n 1, 1) := by decide +kernel
theorem dX1_stillToEat_16 : decode cX1_stillToEat 16 = .ok (.iload_n 3, 1) := by decide +kernel
theorem dX1_stillToEat_17 : decode cX1_stillToEat 17 = .ok (.iaload, 1) := by decide +kernel
theorem dX1_stillToEat_18 : decode cX1_stillToEat 18 = .ok (.bipush (-6), 2) := by decide +kernel
theorem dX1_stillToEat_20 : decode cX1_stillToEat 20 = .ok (.if_icmp .ne 6, 3) := by decide +kernel
theorem dX1_stillToEat_23 : decode cX1_stillToEat 23 = .ok (.goto 31, 3) := by decide +kernel
theorem dX1_stillToEat_26 : decode cX1_stillToEat 26 = .ok (.aload_n 0, 1) := by decide +kernel
theorem dX1_stillToEat_27 : decode cX1_stillToEat 27 = .ok (.getfield 9, 3) := by decide +kernel
theorem dX1_stillToEat_30 : decode cX1_stillToEat 30 = .ok (.iload_n 3, 1) := by decide +kernel
theorem dX1_stillToEat_31 : decode cX1_stillToEat 31 = .ok (.iaload, 1) := by decide +kernel
theorem dX1_stillToEat_32 : decode cX1_stillToEat 32 = .ok (.aload_n 1, 1) := by decide +kernel
theorem dX1_stillToEat_33 : decode cX1_stillToEat 33 = .ok (.iload_n 3, 1) := by decide +kernel
theorem dX1_stillToEat_34 : decode cX1_stillToEat 34 = .ok (.iaload, 1) := by decide +kernel
theorem dX1_stillToEat_35 : decode cX1_stillToEat 35 = .ok (.if_icmp .ge 6, 3) := by decide +kernel
theorem dX1_stillToEat_38 : decode cX1_stillToEat 38 = .ok (.bipush (-6), 2) := by decide +kernel
theorem dX1_stillToEat_40 : decode cX1_stillToEat 40 = .ok (.ireturn, 1) := by decide +kernel
theorem dX1_stillToEat_41 : decode cX1_stillToEat 41 = .ok (.iload_n 2, 1) := by decide +kernel
theorem dX1_stillToEat_42 : decode cX1_stillToEat 42 = .ok (.aload_n 0, 1) := by decide +kernel
theorem dX1_stillToEat_43 : decode cX1_stillToEat 43 = .ok (.getfield 9, 3) := by decide +kernel
theorem dX1_stillToEat_46 : decode cX1_stillToEat 46 = .ok (.iload_n 3, 1) := by decide +kernel
theorem dX1_stillToEat_47 : decode cX1_stillToEat 47 = .ok (.iaload, 1) := by decide +kernel
theorem dX1_stillToEat_48 : decode cX1_stillToEat 48 = .ok (.aload_n 1, 1) := by decide +kernel
theorem dX1_stillToEat_49 : decode cX1_stillToEat 49 = .ok (.iload_n 3, 1) := by decide +kernel
theorem dX1_stillToEat_50 : decode cX1_stillToEat 50 = .ok (.iaload, 1) := by decide +kernel
theorem dX1_stillToEat_51 : decode cX1_stillToEat 51 = .ok (.isub, 1) := by decide +kernel
theorem dX1_stillToEat_52 : decode cX1_stillToEat 52 = .ok (.iadd, 1) := by decide +kernel
theorem dX1_stillToEat_53 : decode cX1_stillToEat 53 = .ok (.istore_n 2, 1) := by decide +kernel
theorem dX1_stillToEat_54 : decode cX1_stillToEat 54 = .ok (.iinc 3 1, 3) := by decide +kernel
theorem dX1_stillToEat_57 : decode cX1_stillToEat 57 = .ok (.goto (-53), 3) := by decide +kernel
theorem dX1_stillToEat_60 : decode cX1_stillToEat 60 = .ok (.iload_n 2, 1) := by decide +kernel
theorem dX1_stillToEat_61 : decode cX1_stillToEat 61 = .ok (.ireturn, 1) := by decide +kernel
theorem dX1_asNumber_0 : decode cX1_asNumber 0 = .ok (.iconst 0, 1) := by decide +kernel
theorem dX1_asNumber_1 : decode cX1_asNumber 1 = .ok (.istore_n 1, 1) := by decide +kernel
theorem dX1_asNumber_2 : decode cX1_asNumber 2 = .ok (.iconst 0, 1) := by decide +kernel
theorem dX1_asNumber_3 : decode cX1_asNumber 3 = .ok (.istore_n 2, 1) := by decide +kernel
theorem dX1_asNumber_4 : decode cX1_asNumber 4 = .ok (.iload_n 2, 1) := by decide +kernel
theorem dX1_asNumber_5 : decode cX1_asNumber 5 = .ok (.aload_n 0, 1) := by decide +kernel
theorem dX1_asNumber_6 : decode cX1_asNumber 6 = .ok (.getfield 15, 3) := by decide +kernel
theorem dX1_asNumber_9 : decode cX1_asNumber 9 = .ok (.getfield 36, 3) := by decide +kernel
theorem dX1_asNumber_12 : decode cX1_asNumber 12 = .ok (.if_icmp .ge 21, 3) := by decide +kernel
theorem dX1_asNumber_15 : decode cX1_asNumber 15 = .ok (.bipush 10, 2) := by decide +kernel
theorem dX1_asNumber_17 : decode cX1_asNumber 17 = .ok (.iload_n 1, 1) := by decide +kernel
theorem dX1_asNumber_18 : decode cX1_asNumber 18 = .ok (.imul, 1) := by decide +kernel
theorem dX1_asNumber_19 : decode cX1_asNumber 19 = .ok (.aload_n 0, 1) := by decide +kernel
theorem dX1_asNumber_20 : decode cX1_asNumber 20 = .ok (.getfield 9, 3) := by decide +kernel
theorem dX1_asNumber_23 : decode cX1_asNumber 23 = .ok (.iload_n 2, 1) := by decide +kernel
theorem dX1_asNumber_24 : decode cX1_asNumber 24 = .ok (.iaload, 1) := by decide +kernel
theorem dX1_asNumber_25 : decode cX1_asNumber 25 = .ok (.iadd, 1) := by decide +kernel
theorem dX1_asNumber_26 : decode cX1_asNumber 26 = .ok (.istore_n 1, 1) := by decide +kernel
theorem dX1_asNumber_27 : decode cX1_asNumber 27 = .ok (.iinc 2 1, 3) := by decide +kernel
theorem dX1_asNumber_30 : decode cX1_asNumber 30 = .ok (.goto (-26), 3) := by decide +kernel
theorem dX1_asNumber_33 : decode cX1_asNumber 33 = .ok (.iload_n 1, 1) := by decide +kernel
theorem dX1_asNumber_34 : decode cX1_asNumber 34 = .ok (.ireturn, 1) := by decide +kernel
theorem dX2_init_0 : decode cX2_init 0 = .ok (.aload_n 0, 1) := by decide +kernel
theorem dX2_init_1 : decode cX2_init 1 = .ok (.invokespecial 3, 3) := by decide +kernel
theorem dX2_init_4 : decode cX2_init 4 = .ok (.aload_n 0, 1) := by decide +kernel
theorem dX2_init_5 : decode cX2_init 5 = .ok (.bipush 7, 2) := by decide +kernel
theorem dX2_init_7 : decode cX2_init 7 = .ok (.newarray .int, 2) := by decide +kernel
theorem dX2_init_9 : decode cX2_init 9 = .ok (.putfield 9, 3) := by decide +kernel
theorem dX2_init_12 : decode cX2_init 12 = .ok (.aload_n 0, 1) := by decide +kernel
theorem dX2_init_13 : decode cX2_init 13 = .ok (.bipush 7, 2) := by decide +kernel
theorem dX2_init_15 : decode cX2_init 15 = .ok (.newarray .int, 2) := by decide +kernel
theorem dX2_init_17 : decode cX2_init 17 = .ok (.putfield 15, 3) := by decide +kernel
theorem dX2_init_20 : decode cX2_init 20 = .ok (.aload_n 0, 1) := by decide +kernel
theorem dX2_init_21 : decode cX2_init 21 = .ok (.bipush 7, 2) := by decide +kernel
theorem dX2_init_23 : decode cX2_init 23 = .ok (.newarray .int, 2) := by decide +kernel
theorem dX2_init_25 : decode cX2_init 25 = .ok (.putfield 18, 3) := by decide +kernel
theorem dX2_init_28 : decode cX2_init 28 = .ok (.aload_n 0, 1) := by decide +kernel
theorem dX2_init_29 : decode cX2_init 29 = .ok (.bipush 7, 2) := by decide +kernel
theorem dX2_init_31 : decode cX2_init 31 = .ok (.newarray .int, 2) := by decide +kernel
theorem dX2_init_33 : decode cX2_init 33 = .ok (.putfield 21, 3) := by decide +kernel
theorem dX2_init_36 : decode cX2_init 36 = .ok (.aload_n 0, 1) := by decide +kernel
theorem dX2_init_37 : decode cX2_init 37 = .ok (.bipush 40, 2) := by decide +kernel
theorem dX2_init_39 : decode cX2_init 39 = .ok (.newarray .int, 2) := by decide +kernel
theorem dX2_init_41 : decode cX2_init 41 = .ok (.putfield 24, 3) := by decide +kernel
theorem dX2_init_44 : decode cX2_init 44 = .ok (.aload_n 0, 1) := by decide +kernel
theorem dX2_init_45 : decode cX2_init 45 = .ok (.aload_n 1, 1) := by decide +kernel
theorem dX2_init_46 : decode cX2_init 46 = .ok (.putfield 27, 3) := by decide +kernel
theorem dX2_init_49 : decode cX2_init 49 = .ok (.aload_n 0, 1) := by decide +kernel
theorem dX2_init_50 : decode cX2_init 50 = .ok (.aload_n 2, 1) := by decide +kernel
theorem dX2_init_51 : decode cX2_init 51 = .ok (.putfield 31, 3) := by decide +kernel
theorem dX2_init_54 : decode cX2_init 54 = .ok (.return_, 1) := by decide +kernel
theorem dX2_run_0 : decode cX2_run 0 = .ok (.aload_n 0, 1) := by decide +kernel
theorem dX2_run_1 : decode cX2_run 1 = .ok (.invokevirtual 35, 3) := by decide +kernel
theorem dX2_run_4 : decode cX2_run 4 = .ok (.iconst 0, 1) := by decide +kernel
theorem dX2_run_5 : decode cX2_run 5 = .ok (.istore_n 2, 1) := by decide +kernel
theorem dX2_run_6 : decode cX2_run 6 = .ok (.iload_n 2, 1) := by decide +kernel
theorem dX2_run_7 : decode cX2_run 7 = .ok (.aload_n 1, 1) := by decide +kernel
theorem dX2_run_8 : decode cX2_run 8 = .ok (.getfield 38, 3) := by decide +kernel
theorem dX2_run_11 : decode cX2_run 11 = .ok (.if_icmp .ge 74, 3) := by decide +kernel
theorem dX2_run_14 : decode cX2_run 14 = .ok (.aload_n 1, 1) := by decide +kernel
theorem dX2_run_15 : decode cX2_run 15 = .ok (.getfield 44, 3) := by decide +kernel
theorem dX2_run_18 : decode cX2_run 18 = .ok (.iload_n 2, 1) := by decide +kernel
theorem dX2_run_19 : decode cX2_run 19 = .ok (.iaload, 1) := by decide +kernel
theorem dX2_run_20 : decode cX2_run 20 = .ok (.istore_n 3, 1) := by decide +kernel
theorem dX2_run_21 : decode cX2_run 21 = .ok (.aload_n 0, 1) := by decide +kernel
theorem dX2_run_22 : decode cX2_run 22 = .ok (.getfield 24, 3) := by decide +kernel
theorem dX2_run_25 : decode cX2_run 25 = .ok (.iload_n 2, 1) := by decide +kernel
theorem dX2_run_26 : decode cX2_run 26 = .ok (.bipush (-6), 2) := by decide +kernel
theorem dX2_run_28 : decode cX2_run 28 = .ok (.iastore, 1) := by decide +kernel
theorem dX2_run_29 : decode cX2_run 29 = .ok (.iload_n 3, 1) := by decide +kernel
theorem dX2_run_30 : decode cX2_run 30 = .ok (.invokestatic 47, 3) := by decide +kernel
theorem dX2_run_33 : decode cX2_run 33 = .ok (.ifCond .eq 15, 3) := by decide +kernel
theorem dX2_run_36 : decode cX2_run 36 = .ok (.aload_n 0, 1) := by decide +kernel
theorem dX2_run_37 : decode cX2_run 37 = .ok (.iload_n 3, 1) := by decide +kernel
theorem dX2_run_38 : decode cX2_run 38 = .ok (.bipush 65, 2) := by decide +kernel
theorem dX2_run_40 : decode cX2_run 40 = .ok (.isub, 1) := by decide +kernel
theorem dX2_run_41 : decode cX2_run 41 = .ok (.iload_n 2, 1) := by decide +kernel
theorem dX2_run_42 : decode cX2_run 42 = .ok (.invokevirtual 51, 3) := by decide +kernel
theorem dX2_run_45 : decode cX2_run 45 = .ok (.goto 24, 3) := by decide +kernel
theorem dX2_run_48 : decode cX2_run 48 = .ok (.iload_n 3, 1) := by decide +kernel
theorem dX2_run_49 : decode cX2_run 49 = .ok (.bipush 46, 2) := by decide +kernel
theorem dX2_run_51 : decode cX2_run 51 = .ok (.if_icmp .ne 10, 3) := by decide +kernel
theorem dX2_run_54 : decode cX2_run 54 = .ok (.aload_n 0, 1) := by decide +kernel
theorem dX2_run_55 : decode cX2_run 55 = .ok (.invokevirtual 55, 3) := by decide +kernel
theorem dX2_run_58 : decode cX2_run 58 = .ok (.goto 11, 3) := by decide +kernel
theorem dX2_run_61 : decode cX2_run 61 = .ok (.aload_n 0, 1) := by decide +kernel
theorem dX2_run_62 : decode cX2_run 62 = .ok (.iload_n 3, 1) := by decide +kernel
theorem dX2_run_63 : decode cX2_run 63 = .ok (.bipush 48, 2) := by decide +kernel
theorem dX2_run_65 : decode cX2_run 65 = .ok (.isub, 1) := by decide +kernel
theorem dX2_run_66 : decode cX2_run 66 = .ok (.invokevirtual 58, 3) := by decide +kernel
theorem dX2_run_69 : decode cX2_run 69 = .ok (.aload_n 0, 1) := by decide +kernel
theorem dX2_run_70 : decode cX2_run 70 = .ok (.getfield 62, 3) := by decide +kernel
theorem dX2_run_73 : decode cX2_run 73 = .ok (.bipush (-6), 2) := by decide +kernel
theorem dX2_run_75 : decode cX2_run 75 = .ok (.if_icmp .eq 4, 3) := by decide +kernel
theorem dX2_run_78 : decode cX2_run 78 = .ok (.return_, 1) := by decide +kernel
theorem dX2_run_79 : decode cX2_run 79 = .ok (.iinc 2 1, 3) := by decide +kernel
theorem dX2_run_82 : decode cX2_run 82 = .ok (.goto (-76), 3) := by decide +kernel
theorem dX2_run_85 : decode cX2_run 85 = .ok (.return_, 1) := by decide +kernel
theorem dX2_begin_0 : decode cX2_begin 0 = .ok (.aload_n 0, 1) := by decide +kernel
theorem dX2_begin_1 : decode cX2_begin 1 = .ok (.getfield 31, 3) := by decide +kernel
theorem dX2_begin_4 : decode cX2_begin 4 = .ok (.invokevirtual 65, 3) := by decide +kernel
theorem dX2_begin_7 : decode cX2_begin 7 = .ok (.aload_n 0, 1) := by decide +kernel
theorem dX2_begin_8 : decode cX2_begin 8 = .ok (.getfield 27, 3) := by decide +kernel
theorem dX2_begin_11 : decode cX2_begin 11 = .ok (.getfield 68, 3) := by decide +kernel
theorem dX2_begin_14 : decode cX2_begin 14 = .ok (.iconst 0, 1) := by decide +kernel
theorem dX2_begin_15 : decode cX2_begin 15 = .ok (.aload_n 0, 1) := by decide +kernel
theorem dX2_begin_16 : decode cX2_begin 16 = .ok (.getfield 9, 3) := by decide +kernel
theorem dX2_begin_19 : decode cX2_begin 19 = .ok (.iconst 0, 1) := by decide +kernel
theorem dX2_begin_20 : decode cX2_begin 20 = .ok (.bipush 7, 2) := by decide +kernel
theorem dX2_begin_22 : decode cX2_begin 22 = .ok (.invokestatic 71, 3) := by decide +kernel
theorem dX2_begin_25 : decode cX2_begin 25 = .ok (.aload_n 0, 1) := by decide +kernel
theorem dX2_begin_26 : decode cX2_begin 26 = .ok (.getfield 15, 3) := by decide +kernel
theorem dX2_begin_29 : decode cX2_begin 29 = .ok (.bipush (-6), 2) := by decide +kernel
theorem dX2_begin_31 : decode cX2_begin 31 = .ok (.invokestatic 77, 3) := by decide +kernel
theorem dX2_begin_34 : decode cX2_begin 34 = .ok (.aload_n 0, 1) := by decide +kernel
theorem dX2_begin_35 : decode cX2_begin 35 = .ok (.getfield 18, 3) := by decide +kernel
theorem dX2_begin_38 : decode cX2_begin 38 = .ok (.bipush (-6), 2) := by decide +kernel
theorem dX2_begin_40 : decode cX2_begin 40 = .ok (.invokestatic 77, 3) := by decide +kernel
theorem dX2_begin_43 : decode cX2_begin 43 = .ok (.aload_n 0, 1) := by decide +kernel
theorem dX2_begin_44 : decode cX2_begin 44 = .ok (.bipush (-6), 2) := by decide +kernel
theorem dX2_begin_46 : decode cX2_begin 46 = .ok (.putfield 62, 3) := by decide +kernel
theorem dX2_begin_49 : decode cX2_begin 49 = .ok (.aload_n 0, 1) := by decide +kernel
theorem dX2_begin_50 : decode cX2_begin 50 = .ok (.bipush (-6), 2) := by decide +kernel
theorem dX2_begin_52 : decode cX2_begin 52 = .ok (.putfield 82, 3) := by decide +kernel
theorem dX2_begin_55 : decode cX2_begin 55 = .ok (.aload_n 0, 1) := by decide +kernel
theorem dX2_begin_56 : decode cX2_begin 56 = .ok (.iconst 0, 1) := by decide +kernel
theorem dX2_begin_57 : decode cX2_begin 57 = .ok (.putfield 85, 3) := by decide +kernel
theorem dX2_begin_60 : decode cX2_begin 60 = .ok (.aload_n 0, 1) := by decide +kernel
theorem dX2_begin_61 : decode cX2_begin 61 = .ok (.iconst 0, 1) := by decide +kernel
theorem dX2_begin_62 : decode cX2_begin 62 = .ok (.putfield 88, 3) := by decide +kernel
theorem dX2_begin_65 : decode cX2_begin 65 = .ok (.return_, 1) := by decide +kernel
theorem dX2_comes_0 : decode cX2_comes 0 = .ok (.aload_n 0, 1) := by decide +kernel
theorem dX2_comes_1 : decode cX2_comes 1 = .ok (.getfield 27, 3) := by decide +kernel
theorem dX2_comes_4 : decode cX2_comes 4 = .ok (.iload_n 1, 1) := by decide +kernel
theorem dX2_comes_5 : decode cX2_comes 5 = .ok (.invokevirtual 91, 3) := by decide +kernel
theorem dX2_comes_8 : decode cX2_comes 8 = .ok (.ifCond .ne 10, 3) := by decide +kernel
theorem dX2_comes_11 : decode cX2_comes 11 = .ok (.aload_n 0, 1) := by decide +kernel
theorem dX2_comes_12 : decode cX2_comes 12 = .ok (.iload_n 2, 1) := by decide +kernel
theorem dX2_comes_13 : decode cX2_comes 13 = .ok (.iconst 1, 1) := by decide +kernel
theorem dX2_comes_14 : decode cX2_comes 14 = .ok (.invokevirtual 94, 3) := by decide +kernel
theorem dX2_comes_17 : decode cX2_comes 17 = .ok (.return_, 1) := by decide +kernel
theorem dX2_comes_18 : decode cX2_comes 18 = .ok (.aload_n 0, 1) := by decide +kernel
theorem dX2_comes_19 : decode cX2_comes 19 = .ok (.getfield 31, 3) := by decide +kernel
theorem dX2_comes_22 : decode cX2_comes 22 = .ok (.iload_n 1, 1) := by decide +kernel
theorem dX2_comes_23 : decode cX2_comes 23 = .ok (.invokevirtual 97, 3) := by decide +kernel
theorem dX2_comes_26 : decode cX2_comes 26 = .ok (.istore_n 3, 1) := by decide +kernel
theorem dX2_comes_27 : decode cX2_comes 27 = .ok (.iload_n 3, 1) := by decide +kernel
theorem dX2_comes_28 : decode cX2_comes 28 = .ok (.bipush (-6), 2) := by decide +kernel
theorem dX2_comes_30 : decode cX2_comes 30 = .ok (.if_icmp .ne 10, 3) := by decide +kernel
theorem dX2_comes_33 : decode cX2_comes 33 = .ok (.aload_n 0, 1) := by decide +kernel
theorem dX2_comes_34 : decode cX2_comes 34 = .ok (.iload_n 2, 1) := by decide +kernel
theorem dX2_comes_35 : decode cX2_comes 35 = .ok (.iconst 2, 1) := by decide +kernel
theorem dX2_comes_36 : decode cX2_comes 36 = .ok (.invokevirtual 94, 3) := by decide +kernel
theorem dX2_comes_39 : decode cX2_comes 39 = .ok (.return_, 1) := by decide +kernel
theorem dX2_comes_40 : decode cX2_comes 40 = .ok (.aload_n 0, 1) := by decide +kernel
theorem dX2_comes_41 : decode cX2_comes 41 = .ok (.dup, 1) := by decide +kernel
theorem dX2_comes_42 : decode cX2_comes 42 = .ok (.getfield 85, 3) := by decide +kernel
theorem dX2_comes_45 : decode cX2_comes 45 = .ok (.iconst 1, 1) := by decide +kernel
theorem dX2_comes_46 : decode cX2_comes 46 = .ok (.iadd, 1) := by decide +kernel
theorem dX2_comes_47 : decode cX2_comes 47 = .ok (.putfield 85, 3) := by decide +kernel
theorem dX2_comes_50 : decode cX2_comes 50 = .ok (.aload_n 0, 1) := by decide +kernel
theorem dX2_comes_51 : decode cX2_comes 51 = .ok (.dup, 1) := by decide +kernel
theorem dX2_comes_52 : decode cX2_comes 52 = .ok (.getfield 88, 3) := by decide +kernel
theorem dX2_comes_55 : decode cX2_comes 55 = .ok (.aload_n 0, 1) := by decide +kernel
theorem dX2_comes_56 : decode cX2_comes 56 = .ok (.getfield 31, 3) := by decide +kernel
theorem dX2_comes_59 : decode cX2_comes 59 = .ok (.iload_n 1, 1) := by decide +kernel
theorem dX2_comes_60 : decode cX2_comes 60 = .ok (.iload_n 3, 1) := by decide +kernel
theorem dX2_comes_61 : decode cX2_comes 61 = .ok (.invokevirtual 101, 3) := by decide +kernel
theorem dX2_comes_64 : decode cX2_comes 64 = .ok (.iadd, 1) := by decide +kernel
theorem dX2_comes_65 : decode cX2_comes 65 = .ok (.putfield 88, 3) := by decide +kernel
theorem dX2_comes_68 : decode cX2_comes 68 = .ok (.aload_n 0, 1) := by decide +kernel
theorem dX2_comes_69 : decode cX2_comes 69 = .ok (.getfield 24, 3) := by decide +kernel
theorem dX2_comes_72 : decode cX2_comes 72 = .ok (.iload_n 2, 1) := by decide +kernel
theorem dX2_comes_73 : decode cX2_comes 73 = .ok (.iload_n 3, 1) := by decide +kernel
theorem dX2_comes_74 : decode cX2_comes 74 = .ok (.iastore, 1) := by decide +kernel
theorem dX2_comes_75 : decode cX2_comes 75 = .ok (.aload_n 0, 1) := by decide +kernel
theorem dX2_comes_76 : decode cX2_comes 76 = .ok (.getfield 9, 3) := by decide +kernel
theorem dX2_comes_79 : decode cX2_comes 79 = .ok (.iload_n 3, 1) := by decide +kernel
theorem dX2_comes_80 : decode cX2_comes 80 = .ok (.bipush 9, 2) := by decide +kernel
theorem dX2_comes_82 : decode cX2_comes 82 = .ok (.iastore, 1) := by decide +kernel
theorem dX2_comes_83 : decode cX2_comes 83 = .ok (.aload_n 0, 1) := by decide +kernel
theorem dX2_comes_84 : decode cX2_comes 84 = .ok (.getfield 15, 3) := by decide +kernel
theorem dX2_comes_87 : decode cX2_comes 87 = .ok (.iload_n 3, 1) := by decide +kernel
theorem dX2_comes_88 : decode cX2_comes 88 = .ok (.iaload, 1) := by decide +kernel
theorem dX2_comes_89 : decode cX2_comes 89 = .ok (.bipush (-6), 2) := by decide +kernel
theorem dX2_comes_91 : decode cX2_comes 91 = .ok (.if_icmp .ne 10, 3) := by decide +kernel
theorem dX2_comes_94 : decode cX2_comes 94 = .ok (.aload_n 0, 1) := by decide +kernel
theorem dX2_comes_95 : decode cX2_comes 95 = .ok (.getfield 15, 3) := by decide +kernel
theorem dX2_comes_98 : decode cX2_comes 98 = .ok (.iload_n 3, 1) := by decide +kernel
theorem dX2_comes_99 : decode cX2_comes 99 = .ok (.iload_n 1, 1) := by decide +kernel
theorem dX2_comes_100 : decode cX2_comes 100 = .ok (.iastore, 1) := by decide +kernel
theorem dX2_comes_101 : decode cX2_comes 101 = .ok (.aload_n 0, 1) := by decide +kernel
theorem dX2_comes_102 : decode cX2_comes 102 = .ok (.getfield 18, 3) := by decide +kernel
theorem dX2_comes_105 : decode cX2_comes 105 = .ok (.iload_n 3, 1) := by decide +kernel
theorem dX2_comes_106 : decode cX2_comes 106 = .ok (.iload_n 1, 1) := by decide +kernel
theorem dX2_comes_107 : decode cX2_comes 107 = .ok (.iastore, 1) := by decide +kernel
theorem dX2_comes_108 : decode cX2_comes 108 = .ok (.return_, 1) := by decide +kernel
theorem dX2_fail_0 : decode cX2_fail 0 = .ok (.aload_n 0, 1) := by decide +kernel
theorem dX2_fail_1 : decode cX2_fail 1 = .ok (.iload_n 1, 1) := by decide +kernel
theorem dX2_fail_2 : decode cX2_fail 2 = .ok (.putfield 62, 3) := by decide +kernel
theorem dX2_fail_5 : decode cX2_fail 5 = .ok (.aload_n 0, 1) := by decide +kernel
theorem dX2_fail_6 : decode cX2_fail 6 = .ok (.iload_n 2, 1) := by decide +kernel
theorem dX2_fail_7 : decode cX2_fail 7 = .ok (.putfield 82, 3) := by decide +kernel
theorem dX2_fail_10 : decode cX2_fail 10 = .ok (.return_, 1) := by decide +kernel
theorem dX2_cool_0 : decode cX2_cool 0 = .ok (.iconst 0, 1) := by decide +kernel
theorem dX2_cool_1 : decode cX2_cool 1 = .ok (.istore_n 1, 1) := by decide +kernel
theorem dX2_cool_2 : decode cX2_cool 2 = .ok (.iload_n 1, 1) := by decide +kernel
theorem dX2_cool_3 : decode cX2_cool 3 = .ok (.bipush 7, 2) := by decide +kernel
theorem dX2_cool_5 : decode cX2_cool 5 = .ok (.if_icmp .ge 27, 3) := by decide +kernel
theorem dX2_cool_8 : decode cX2_cool 8 = .ok (.aload_n 0, 1) := by decide +kernel
theorem dX2_cool_9 : decode cX2_cool 9 = .ok (.getfield 9, 3) := by decide +kernel
theorem dX2_cool_12 : decode cX2_cool 12 = .ok (.iload_n 1, 1) := by decide +kernel
theorem dX2_cool_13 : decode cX2_cool 13 = .ok (.iconst 0, 1) := by decide +kernel
theorem dX2_cool_14 : decode cX2_cool 14 = .ok (.aload_n 0, 1) := by decide +kernel
theorem dX2_cool_15 : decode cX2_cool 15 = .ok (.getfield 9, 3) := by decide +kernel
theorem dX2_cool_18 : decode cX2_cool 18 = .ok (.iload_n 1, 1) := by decide +kernel
theorem dX2_cool_19 : decode cX2_cool 19 = .ok (.iaload, 1) := by decide +kernel
theorem dX2_cool_20 : decode cX2_cool 20 = .ok (.iconst 1, 1) := by decide +kernel
theorem dX2_cool_21 : decode cX2_cool 21 = .ok (.isub, 1) := by decide +kernel
theorem dX2_cool_22 : decode cX2_cool 22 = .ok (.invokestatic 105, 3) := by decide +kernel
theorem dX2_cool_25 : decode cX2_cool 25 = .ok (.iastore, 1) := by decide +kernel
theorem dX2_cool_26 : decode cX2_cool 26 = .ok (.iinc 1 1, 3) := by decide +kernel
theorem dX2_cool_29 : decode cX2_cool 29 = .ok (.goto (-27), 3) := by decide +kernel
theorem dX2_cool_32 : decode cX2_cool 32 = .ok (.return_, 1) := by decide +kernel
theorem dX2_fill_0 : decode cX2_fill 0 = .ok (.aload_n 0, 1) := by decide +kernel
theorem dX2_fill_1 : decode cX2_fill 1 = .ok (.getfield 27, 3) := by decide +kernel
theorem dX2_fill_4 : decode cX2_fill 4 = .ok (.iload_n 1, 1) := by decide +kernel
theorem dX2_fill_5 : decode cX2_fill 5 = .ok (.invokevirtual 110, 3) := by decide +kernel
theorem dX2_fill_8 : decode cX2_fill 8 = .ok (.ifCond .eq 21, 3) := by decide +kernel
theorem dX2_fill_11 : decode cX2_fill 11 = .ok (.aload_n 0, 1) := by decide +kernel
theorem dX2_fill_12 : decode cX2_fill 12 = .ok (.getfield 31, 3) := by decide +kernel
theorem dX2_fill_15 : decode cX2_fill 15 = .ok (.getfield 113, 3) := by decide +kernel
theorem dX2_fill_18 : decode cX2_fill 18 = .ok (.iload_n 1, 1) := by decide +kernel
theorem dX2_fill_19 : decode cX2_fill 19 = .ok (.aload_n 0, 1) := by decide +kernel
theorem dX2_fill_20 : decode cX2_fill 20 = .ok (.getfield 27, 3) := by decide +kernel
theorem dX2_fill_23 : decode cX2_fill 23 = .ok (.getfield 116, 3) := by decide +kernel
theorem dX2_fill_26 : decode cX2_fill 26 = .ok (.iload_n 1, 1) := by decide +kernel
theorem dX2_fill_27 : decode cX2_fill 27 = .ok (.iaload, 1) := by decide +kernel
theorem dX2_fill_28 : decode cX2_fill 28 = .ok (.iastore, 1) := by decide +kernel
theorem dX2_fill_29 : decode cX2_fill 29 = .ok (.return_, 1) := by decide +kernel
theorem dX3_init_0 : decode cX3_init 0 = .ok (.aload_n 0, 1) := by decide +kernel
theorem dX3_init_1 : decode cX3_init 1 = .ok (.invokespecial 3, 3) := by decide +kernel
theorem dX3_init_4 : decode cX3_init 4 = .ok (.aload_n 0, 1) := by decide +kernel
theorem dX3_init_5 : decode cX3_init 5 = .ok (.sipush 2048, 3) := by decide +kernel
theorem dX3_init_8 : decode cX3_init 8 = .ok (.newarray .int, 2) := by decide +kernel
theorem dX3_init_10 : decode cX3_init 10 = .ok (.putfield 11, 3) := by decide +kernel
theorem dX3_init_13 : decode cX3_init 13 = .ok (.aload_n 0, 1) := by decide +kernel
theorem dX3_init_14 : decode cX3_init 14 = .ok (.aload_n 1, 1) := by decide +kernel
theorem dX3_init_15 : decode cX3_init 15 = .ok (.putfield 15, 3) := by decide +kernel
theorem dX3_init_18 : decode cX3_init 18 = .ok (.return_, 1) := by decide +kernel
theorem dX3_howMany_0 : decode cX3_howMany 0 = .ok (.aload_n 0, 1) := by decide +kernel
theorem dX3_howMany_1 : decode cX3_howMany 1 = .ok (.getfield 11, 3) := by decide +kernel
theorem dX3_howMany_4 : decode cX3_howMany 4 = .ok (.bipush (-6), 2) := by decide +kernel
theorem dX3_howMany_6 : decode cX3_howMany 6 = .ok (.invokestatic 19, 3) := by decide +kernel
theorem dX3_howMany_9 : decode cX3_howMany 9 = .ok (.aload_n 0, 1) := by decide +kernel
theorem dX3_howMany_10 : decode cX3_howMany 10 = .ok (.iconst 0, 1) := by decide +kernel
theorem dX3_howMany_11 : decode cX3_howMany 11 = .ok (.putfield 25, 3) := by decide +kernel
theorem dX3_howMany_14 : decode cX3_howMany 14 = .ok (.aload_n 0, 1) := by decide +kernel
theorem dX3_howMany_15 : decode cX3_howMany 15 = .ok (.iload_n 1, 1) := by decide +kernel
theorem dX3_howMany_16 : decode cX3_howMany 16 = .ok (.iconst 5, 1) := by decide +kernel
theorem dX3_howMany_17 : decode cX3_howMany 17 = .ok (.invokestatic 29, 3) := by decide +kernel
theorem dX3_howMany_20 : decode cX3_howMany 20 = .ok (.invokevirtual 35, 3) := by decide +kernel
theorem dX3_howMany_23 : decode cX3_howMany 23 = .ok (.aload_n 0, 1) := by decide +kernel
theorem dX3_howMany_24 : decode cX3_howMany 24 = .ok (.getfield 25, 3) := by decide +kernel
theorem dX3_howMany_27 : decode cX3_howMany 27 = .ok (.ireturn, 1) := by decide +kernel
theorem dX3_walk_0 : decode cX3_walk 0 = .ok (.iload_n 1, 1) := by decide +kernel
theorem dX3_walk_1 : decode cX3_walk 1 = .ok (.ifCond .gt 15, 3) := by decide +kernel
theorem dX3_walk_4 : decode cX3_walk 4 = .ok (.aload_n 0, 1) := by decide +kernel
theorem dX3_walk_5 : decode cX3_walk 5 = .ok (.aload_n 0, 1) := by decide +kernel
theorem dX3_walk_6 : decode cX3_walk 6 = .ok (.getfield 15, 3) := by decide +kernel
theorem dX3_walk_9 : decode cX3_walk 9 = .ok (.invokevirtual 39, 3) := by decide +kernel
theorem dX3_walk_12 : decode cX3_walk 12 = .ok (.invokevirtual 45, 3) := by decide +kernel
theorem dX3_walk_15 : decode cX3_walk 15 = .ok (.return_, 1) := by decide +kernel
theorem dX3_walk_16 : decode cX3_walk 16 = .ok (.iconst 0, 1) := by decide +kernel
theorem dX3_walk_17 : decode cX3_walk 17 = .ok (.istore_n 2, 1) := by decide +kernel
theorem dX3_walk_18 : decode cX3_walk 18 = .ok (.iload_n 2, 1) := by decide +kernel
theorem dX3_walk_19 : decode cX3_walk 19 = .ok (.iconst 4, 1) := by decide +kernel
theorem dX3_walk_20 : decode cX3_walk 20 = .ok (.if_icmp .ge 63, 3) := by decide +kernel
theorem dX3_walk_23 : decode cX3_walk 23 = .ok (.aload_n 0, 1) := by decide +kernel
theorem dX3_walk_24 : decode cX3_walk 24 = .ok (.getfield 15, 3) := by decide +kernel
theorem dX3_walk_27 : decode cX3_walk 27 = .ok (.getfield 48, 3) := by decide +kernel
theorem dX3_walk_30 : decode cX3_walk 30 = .ok (.istore_n 3, 1) := by decide +kernel
theorem dX3_walk_31 : decode cX3_walk 31 = .ok (.aload_n 0, 1) := by decide +kernel
theorem dX3_walk_32 : decode cX3_walk 32 = .ok (.getfield 15, 3) := by decide +kernel
theorem dX3_walk_35 : decode cX3_walk 35 = .ok (.iload_n 2, 1) := by decide +kernel
theorem dX3_walk_36 : decode cX3_walk 36 = .ok (.invokevirtual 51, 3) := by decide +kernel
theorem dX3_walk_39 : decode cX3_walk 39 = .ok (.istore 4, 2) := by decide +kernel
theorem dX3_walk_41 : decode cX3_walk 41 = .ok (.iload 4, 2) := by decide +kernel
theorem dX3_walk_43 : decode cX3_walk 43 = .ok (.ifCond .ne 6, 3) := by decide +kernel
theorem dX3_walk_46 : decode cX3_walk 46 = .ok (.goto 31, 3) := by decide +kernel
theorem dX3_walk_49 : decode cX3_walk 49 = .ok (.aload_n 0, 1) := by decide +kernel
theorem dX3_walk_50 : decode cX3_walk 50 = .ok (.getfield 15, 3) := by decide +kernel
theorem dX3_walk_53 : decode cX3_walk 53 = .ok (.getfield 48, 3) := by decide +kernel
theorem dX3_walk_56 : decode cX3_walk 56 = .ok (.istore 5, 2) := by decide +kernel
theorem dX3_walk_58 : decode cX3_walk 58 = .ok (.aload_n 0, 1) := by decide +kernel
theorem dX3_walk_59 : decode cX3_walk 59 = .ok (.iload_n 1, 1) := by decide +kernel
theorem dX3_walk_60 : decode cX3_walk 60 = .ok (.iconst 1, 1) := by decide +kernel
theorem dX3_walk_61 : decode cX3_walk 61 = .ok (.isub, 1) := by decide +kernel
theorem dX3_walk_62 : decode cX3_walk 62 = .ok (.invokevirtual 35, 3) := by decide +kernel
theorem dX3_walk_65 : decode cX3_walk 65 = .ok (.aload_n 0, 1) := by decide +kernel
theorem dX3_walk_66 : decode cX3_walk 66 = .ok (.getfield 15, 3) := by decide +kernel
theorem dX3_walk_69 : decode cX3_walk 69 = .ok (.iload 5, 2) := by decide +kernel
theorem dX3_walk_71 : decode cX3_walk 71 = .ok (.iload 4, 2) := by decide +kernel
theorem dX3_walk_73 : decode cX3_walk 73 = .ok (.iload_n 3, 1) := by decide +kernel
theorem dX3_walk_74 : decode cX3_walk 74 = .ok (.invokevirtual 55, 3) := by decide +kernel
theorem dX3_walk_77 : decode cX3_walk 77 = .ok (.iinc 2 1, 3) := by decide +kernel
theorem dX3_walk_80 : decode cX3_walk 80 = .ok (.goto (-62), 3) := by decide +kernel
theorem dX3_walk_83 : decode cX3_walk 83 = .ok (.return_, 1) := by decide +kernel
theorem dX3_put_0 : decode cX3_put 0 = .ok (.iload_n 1, 1) := by decide +kernel
theorem dX3_put_1 : decode cX3_put 1 = .ok (.ldc 59, 2) := by decide +kernel
theorem dX3_put_3 : decode cX3_put 3 = .ok (.imul, 1) := by decide +kernel
theorem dX3_put_4 : decode cX3_put 4 = .ok (.bipush 21, 2) := by decide +kernel
theorem dX3_put_6 : decode cX3_put 6 = .ok (.iushr, 1) := by decide +kernel
theorem dX3_put_7 : decode cX3_put 7 = .ok (.istore_n 2, 1) := by decide +kernel
theorem dX3_put_8 : decode cX3_put 8 = .ok (.iconst 0, 1) := by decide +kernel
theorem dX3_put_9 : decode cX3_put 9 = .ok (.istore_n 3, 1) := by decide +kernel
theorem dX3_put_10 : decode cX3_put 10 = .ok (.iload_n 3, 1) := by decide +kernel
theorem dX3_put_11 : decode cX3_put 11 = .ok (.sipush 2048, 3) := by decide +kernel
theorem dX3_put_14 : decode cX3_put 14 = .ok (.if_icmp .ge 57, 3) := by decide +kernel
theorem dX3_put_17 : decode cX3_put 17 = .ok (.aload_n 0, 1) := by decide +kernel
theorem dX3_put_18 : decode cX3_put 18 = .ok (.getfield 11, 3) := by decide +kernel
theorem dX3_put_21 : decode cX3_put 21 = .ok (.iload_n 2, 1) := by decide +kernel
theorem dX3_put_22 : decode cX3_put 22 = .ok (.iaload, 1) := by decide +kernel
theorem dX3_put_23 : decode cX3_put 23 = .ok (.iload_n 1, 1) := by decide +kernel
theorem dX3_put_24 : decode cX3_put 24 = .ok (.if_icmp .ne 4, 3) := by decide +kernel
theorem dX3_put_27 : decode cX3_put 27 = .ok (.return_, 1) := by decide +kernel
theorem dX3_put_28 : decode cX3_put 28 = .ok (.aload_n 0, 1) := by decide +kernel
theorem dX3_put_29 : decode cX3_put 29 = .ok (.getfield 11, 3) := by decide +kernel
theorem dX3_put_32 : decode cX3_put 32 = .ok (.iload_n 2, 1) := by decide +kernel
theorem dX3_put_33 : decode cX3_put 33 = .ok (.iaload, 1) := by decide +kernel
theorem dX3_put_34 : decode cX3_put 34 = .ok (.bipush (-6), 2) := by decide +kernel
theorem dX3_put_36 : decode cX3_put 36 = .ok (.if_icmp .ne 21, 3) := by decide +kernel
theorem dX3_put_39 : decode cX3_put 39 = .ok (.aload_n 0, 1) := by decide +kernel
theorem dX3_put_40 : decode cX3_put 40 = .ok (.getfield 11, 3) := by decide +kernel
theorem dX3_put_43 : decode cX3_put 43 = .ok (.iload_n 2, 1) := by decide +kernel
theorem dX3_put_44 : decode cX3_put 44 = .ok (.iload_n 1, 1) := by decide +kernel
theorem dX3_put_45 : decode cX3_put 45 = .ok (.iastore, 1) := by decide +kernel
theorem dX3_put_46 : decode cX3_put 46 = .ok (.aload_n 0, 1) := by decide +kernel
theorem dX3_put_47 : decode cX3_put 47 = .ok (.dup, 1) := by decide +kernel
theorem dX3_put_48 : decode cX3_put 48 = .ok (.getfield 25, 3) := by decide +kernel
theorem dX3_put_51 : decode cX3_put 51 = .ok (.iconst 1, 1) := by decide +kernel
theorem dX3_put_52 : decode cX3_put 52 = .ok (.iadd, 1) := by decide +kernel
theorem dX3_put_53 : decode cX3_put 53 = .ok (.putfield 25, 3) := by decide +kernel
theorem dX3_put_56 : decode cX3_put 56 = .ok (.return_, 1) := by decide +kernel
theorem dX3_put_57 : decode cX3_put 57 = .ok (.iload_n 2, 1) := by decide +kernel
theorem dX3_put_58 : decode cX3_put 58 = .ok (.iconst 1, 1) := by decide +kernel
theorem dX3_put_59 : decode cX3_put 59 = .ok (.iadd, 1) := by decide +kernel
theorem dX3_put_60 : decode cX3_put 60 = .ok (.sipush 2047, 3) := by decide +kernel
theorem dX3_put_63 : decode cX3_put 63 = .ok (.iand, 1) := by decide +kernel
theorem dX3_put_64 : decode cX3_put 64 = .ok (.istore_n 2, 1) := by decide +kernel
theorem dX3_put_65 : decode cX3_put 65 = .ok (.iinc 3 1, 3) := by decide +kernel
theorem dX3_put_68 : decode cX3_put 68 = .ok (.goto (-58), 3) := by decide +kernel
theorem dX3_put_71 : decode cX3_put 71 = .ok (.return_, 1) := by decide +kernel
theorem dX4_init_0 : decode cX4_init 0 = .ok (.aload_n 0, 1) := by decide +kernel
theorem dX4_init_1 : decode cX4_init 1 = .ok (.invokespecial 3, 3) := by decide +kernel
theorem dX4_init_4 : decode cX4_init 4 = .ok (.aload_n 0, 1) := by decide +kernel
theorem dX4_init_5 : decode cX4_init 5 = .ok (.bipush 40, 2) := by decide +kernel
theorem dX4_init_7 : decode cX4_init 7 = .ok (.newarray .int, 2) := by decide +kernel
theorem dX4_init_9 : decode cX4_init 9 = .ok (.putfield 9, 3) := by decide +kernel
theorem dX4_init_12 : decode cX4_init 12 = .ok (.return_, 1) := by decide +kernel
theorem dX4_add_0 : decode cX4_add 0 = .ok (.aload_n 0, 1) := by decide +kernel
theorem dX4_add_1 : decode cX4_add 1 = .ok (.getfield 15, 3) := by decide +kernel
theorem dX4_add_4 : decode cX4_add 4 = .ok (.bipush 40, 2) := by decide +kernel
theorem dX4_add_6 : decode cX4_add 6 = .ok (.if_icmp .lt 6, 3) := by decide +kernel
theorem dX4_add_9 : decode cX4_add 9 = .ok (.bipush (-4), 2) := by decide +kernel
theorem dX4_add_11 : decode cX4_add 11 = .ok (.ireturn, 1) := by decide +kernel
theorem dX4_add_12 : decode cX4_add 12 = .ok (.aload_n 0, 1) := by decide +kernel
theorem dX4_add_13 : decode cX4_add 13 = .ok (.getfield 9, 3) := by decide +kernel
theorem dX4_add_16 : decode cX4_add 16 = .ok (.aload_n 0, 1) := by decide +kernel
theorem dX4_add_17 : decode cX4_add 17 = .ok (.getfield 15, 3) := by decide +kernel
theorem dX4_add_20 : decode cX4_add 20 = .ok (.iload_n 1, 1) := by decide +kernel
theorem dX4_add_21 : decode cX4_add 21 = .ok (.iastore, 1) := by decide +kernel
theorem dX4_add_22 : decode cX4_add 22 = .ok (.aload_n 0, 1) := by decide +kernel
theorem dX4_add_23 : decode cX4_add 23 = .ok (.dup, 1) := by decide +kernel
theorem dX4_add_24 : decode cX4_add 24 = .ok (.getfield 15, 3) := by decide +kernel
theorem dX4_add_27 : decode cX4_add 27 = .ok (.iconst 1, 1) := by decide +kernel
theorem dX4_add_28 : decode cX4_add 28 = .ok (.iadd, 1) := by decide +kernel
theorem dX4_add_29 : decode cX4_add 29 = .ok (.putfield 15, 3) := by decide +kernel
theorem dX4_add_32 : decode cX4_add 32 = .ok (.aload_n 0, 1) := by decide +kernel
theorem dX4_add_33 : decode cX4_add 33 = .ok (.getfield 15, 3) := by decide +kernel
theorem dX4_add_36 : decode cX4_add 36 = .ok (.ireturn, 1) := by decide +kernel
theorem dX4_firstFault_0 : decode cX4_firstFault 0 = .ok (.iconst 0, 1) := by decide +kernel
theorem dX4_firstFault_1 : decode cX4_firstFault 1 = .ok (.istore_n 2, 1) := by decide +kernel
theorem dX4_firstFault_2 : decode cX4_firstFault 2 = .ok (.iload_n 2, 1) := by decide +kernel
theorem dX4_firstFault_3 : decode cX4_firstFault 3 = .ok (.aload_n 0, 1) := by decide +kernel
theorem dX4_firstFault_4 : decode cX4_firstFault 4 = .ok (.getfield 15, 3) := by decide +kernel
theorem dX4_firstFault_7 : decode cX4_firstFault 7 = .ok (.if_icmp .ge 24, 3) := by decide +kernel
theorem dX4_firstFault_10 : decode cX4_firstFault 10 = .ok (.aload_n 0, 1) := by decide +kernel
theorem dX4_firstFault_11 : decode cX4_firstFault 11 = .ok (.getfield 9, 3) := by decide +kernel
theorem dX4_firstFault_14 : decode cX4_firstFault 14 = .ok (.iload_n 2, 1) := by decide +kernel
theorem dX4_firstFault_15 : decode cX4_firstFault 15 = .ok (.iaload, 1) := by decide +kernel
theorem dX4_firstFault_16 : decode cX4_firstFault 16 = .ok (.iload_n 1, 1) := by decide +kernel
theorem dX4_firstFault_17 : decode cX4_firstFault 17 = .ok (.invokestatic 19, 3) := by decide +kernel
theorem dX4_firstFault_20 : decode cX4_firstFault 20 = .ok (.ifCond .ne 5, 3) := by decide +kernel
theorem dX4_firstFault_23 : decode cX4_firstFault 23 = .ok (.iload_n 2, 1) := by decide +kernel
theorem dX4_firstFault_24 : decode cX4_firstFault 24 = .ok (.ireturn, 1) := by decide +kernel
theorem dX4_firstFault_25 : decode cX4_firstFault 25 = .ok (.iinc 2 1, 3) := by decide +kernel
theorem dX4_firstFault_28 : decode cX4_firstFault 28 = .ok (.goto (-26), 3) := by decide +kernel
theorem dX4_firstFault_31 : decode cX4_firstFault 31 = .ok (.bipush (-6), 2) := by decide +kernel
theorem dX4_firstFault_33 : decode cX4_firstFault 33 = .ok (.ireturn, 1) := by decide +kernel
theorem dX4_canStand_0 : decode cX4_canStand 0 = .ok (.iload_n 0, 1) := by decide +kernel
theorem dX4_canStand_1 : decode cX4_canStand 1 = .ok (.bipush 46, 2) := by decide +kernel
theorem dX4_canStand_3 : decode cX4_canStand 3 = .ok (.if_icmp .eq 24, 3) := by decide +kernel
theorem dX4_canStand_6 : decode cX4_canStand 6 = .ok (.iload_n 0, 1) := by decide +kernel
theorem dX4_canStand_7 : decode cX4_canStand 7 = .ok (.invokestatic 23, 3) := by decide +kernel
theorem dX4_canStand_10 : decode cX4_canStand 10 = .ok (.ifCond .ne 17, 3) := by decide +kernel
theorem dX4_canStand_13 : decode cX4_canStand 13 = .ok (.iload_n 0, 1) := by decide +kernel
theorem dX4_canStand_14 : decode cX4_canStand 14 = .ok (.bipush 48, 2) := by decide +kernel
theorem dX4_canStand_16 : decode cX4_canStand 16 = .ok (.if_icmp .lt 15, 3) := by decide +kernel
theorem dX4_canStand_19 : decode cX4_canStand 19 = .ok (.iload_n 0, 1) := by decide +kernel
theorem dX4_canStand_20 : decode cX4_canStand 20 = .ok (.bipush 48, 2) := by decide +kernel
theorem dX4_canStand_22 : decode cX4_canStand 22 = .ok (.iload_n 1, 1) := by decide +kernel
theorem dX4_canStand_23 : decode cX4_canStand 23 = .ok (.iadd, 1) := by decide +kernel
theorem dX4_canStand_24 : decode cX4_canStand 24 = .ok (.if_icmp .ge 7, 3) := by decide +kernel
theorem dX4_canStand_27 : decode cX4_canStand 27 = .ok (.iconst 1, 1) := by decide +kernel
theorem dX4_canStand_28 : decode cX4_canStand 28 = .ok (.goto 4, 3) := by decide +kernel
theorem dX4_canStand_31 : decode cX4_canStand 31 = .ok (.iconst 0, 1) := by decide +kernel
theorem dX4_canStand_32 : decode cX4_canStand 32 = .ok (.ireturn, 1) := by decide +kernel
theorem dX4_isGuest_0 : decode cX4_isGuest 0 = .ok (.iload_n 0, 1) := by decide +kernel
theorem dX4_isGuest_1 : decode cX4_isGuest 1 = .ok (.bipush 65, 2) := by decide +kernel
theorem dX4_isGuest_3 : decode cX4_isGuest 3 = .ok (.if_icmp .lt 13, 3) := by decide +kernel
theorem dX4_isGuest_6 : decode cX4_isGuest 6 = .ok (.iload_n 0, 1) := by decide +kernel
theorem dX4_isGuest_7 : decode cX4_isGuest 7 = .ok (.bipush 69, 2) := by decide +kernel
theorem dX4_isGuest_9 : decode cX4_isGuest 9 = .ok (.if_icmp .ge 7, 3) := by decide +kernel
theorem dX4_isGuest_12 : decode cX4_isGuest 12 = .ok (.iconst 1, 1) := by decide +kernel
theorem dX4_isGuest_13 : decode cX4_isGuest 13 = .ok (.goto 4, 3) := by decide +kernel
theorem dX4_isGuest_16 : decode cX4_isGuest 16 = .ok (.iconst 0, 1) := by decide +kernel
theorem dX4_isGuest_17 : decode cX4_isGuest 17 = .ok (.ireturn, 1) := by decide +kernel
theorem dJ6_bitCount_0f7a4_0 : decode cJ6_bitCount_0f7a4 0 = .ok (.iload_n 0, 1) := by decide +kernel
theorem dJ6_bitCount_0f7a4_1 : decode cJ6_bitCount_0f7a4 1 = .ok (.iload_n 0, 1) := by decide +kernel
theorem dJ6_bitCount_0f7a4_2 : decode cJ6_bitCount_0f7a4 2 = .ok (.iconst 1, 1) := by decide +kernel
theorem dJ6_bitCount_0f7a4_3 : decode cJ6_bitCount_0f7a4 3 = .ok (.iushr, 1) := by decide +kernel
theorem dJ6_bitCount_0f7a4_4 : decode cJ6_bitCount_0f7a4 4 = .ok (.ldc_w 265, 3) := by decide +kernel
theorem dJ6_bitCount_0f7a4_7 : decode cJ6_bitCount_0f7a4 7 = .ok (.iand, 1) := by decide +kernel
theorem dJ6_bitCount_0f7a4_8 : decode cJ6_bitCount_0f7a4 8 = .ok (.isub, 1) := by decide +kernel
theorem dJ6_bitCount_0f7a4_9 : decode cJ6_bitCount_0f7a4 9 = .ok (.istore_n 0, 1) := by decide +kernel
theorem dJ6_bitCount_0f7a4_10 : decode cJ6_bitCount_0f7a4 10 = .ok (.iload_n 0, 1) := by decide +kernel
theorem dJ6_bitCount_0f7a4_11 : decode cJ6_bitCount_0f7a4 11 = .ok (.ldc_w 266, 3) := by decide +kernel
theorem dJ6_bitCount_0f7a4_14 : decode cJ6_bitCount_0f7a4 14 = .ok (.iand, 1) := by decide +kernel
theorem dJ6_bitCount_0f7a4_15 : decode cJ6_bitCount_0f7a4 15 = .ok (.iload_n 0, 1) := by decide +kernel
theorem dJ6_bitCount_0f7a4_16 : decode cJ6_bitCount_0f7a4 16 = .ok (.iconst 2, 1) := by decide +kernel
theorem dJ6_bitCount_0f7a4_17 : decode cJ6_bitCount_0f7a4 17 = .ok (.iushr, 1) := by decide +kernel
theorem dJ6_bitCount_0f7a4_18 : decode cJ6_bitCount_0f7a4 18 = .ok (.ldc_w 266, 3) := by decide +kernel
theorem dJ6_bitCount_0f7a4_21 : decode cJ6_bitCount_0f7a4 21 = .ok (.iand, 1) := by decide +kernel
theorem dJ6_bitCount_0f7a4_22 : decode cJ6_bitCount_0f7a4 22 = .ok (.iadd, 1) := by decide +kernel
theorem dJ6_bitCount_0f7a4_23 : decode cJ6_bitCount_0f7a4 23 = .ok (.istore_n 0, 1) := by decide +kernel
theorem dJ6_bitCount_0f7a4_24 : decode cJ6_bitCount_0f7a4 24 = .ok (.iload_n 0, 1) := by decide +kernel
theorem dJ6_bitCount_0f7a4_25 : decode cJ6_bitCount_0f7a4 25 = .ok (.iload_n 0, 1) := by decide +kernel
theorem dJ6_bitCount_0f7a4_26 : decode cJ6_bitCount_0f7a4 26 = .ok (.iconst 4, 1) := by decide +kernel
theorem dJ6_bitCount_0f7a4_27 : decode cJ6_bitCount_0f7a4 27 = .ok (.iushr, 1) := by decide +kernel
theorem dJ6_bitCount_0f7a4_28 : decode cJ6_bitCount_0f7a4 28 = .ok (.iadd, 1) := by decide +kernel
theorem dJ6_bitCount_0f7a4_29 : decode cJ6_bitCount_0f7a4 29 = .ok (.ldc_w 267, 3) := by decide +kernel
theorem dJ6_bitCount_0f7a4_32 : decode cJ6_bitCount_0f7a4 32 = .ok (.iand, 1) := by decide +kernel
theorem dJ6_bitCount_0f7a4_33 : decode cJ6_bitCount_0f7a4 33 = .ok (.istore_n 0, 1) := by decide +kernel
theorem dJ6_bitCount_0f7a4_34 : decode cJ6_bitCount_0f7a4 34 = .ok (.iload_n 0, 1) := by decide +kernel
theorem dJ6_bitCount_0f7a4_35 : decode cJ6_bitCount_0f7a4 35 = .ok (.iload_n 0, 1) := by decide +kernel
theorem dJ6_bitCount_0f7a4_36 : decode cJ6_bitCount_0f7a4 36 = .ok (.bipush 8, 2) := by decide +kernel
theorem dJ6_bitCount_0f7a4_38 : decode cJ6_bitCount_0f7a4 38 = .ok (.iushr, 1) := by decide +kernel
theorem dJ6_bitCount_0f7a4_39 : decode cJ6_bitCount_0f7a4 39 = .ok (.iadd, 1) := by decide +kernel
theorem dJ6_bitCount_0f7a4_40 : decode cJ6_bitCount_0f7a4 40 = .ok (.istore_n 0, 1) := by decide +kernel
theorem dJ6_bitCount_0f7a4_41 : decode cJ6_bitCount_0f7a4 41 = .ok (.iload_n 0, 1) := by decide +kernel
theorem dJ6_bitCount_0f7a4_42 : decode cJ6_bitCount_0f7a4 42 = .ok (.iload_n 0, 1) := by decide +kernel
theorem dJ6_bitCount_0f7a4_43 : decode cJ6_bitCount_0f7a4 43 = .ok (.bipush 16, 2) := by decide +kernel
theorem dJ6_bitCount_0f7a4_45 : decode cJ6_bitCount_0f7a4 45 = .ok (.iushr, 1) := by decide +kernel
theorem dJ6_bitCount_0f7a4_46 : decode cJ6_bitCount_0f7a4 46 = .ok (.iadd, 1) := by decide +kernel
theorem dJ6_bitCount_0f7a4_47 : decode cJ6_bitCount_0f7a4 47 = .ok (.istore_n 0, 1) := by decide +kernel
theorem dJ6_bitCount_0f7a4_48 : decode cJ6_bitCount_0f7a4 48 = .ok (.iload_n 0, 1) := by decide +kernel
theorem dJ6_bitCount_0f7a4_49 : decode cJ6_bitCount_0f7a4 49 = .ok (.bipush 63, 2) := by decide +kernel
theorem dJ6_bitCount_0f7a4_51 : decode cJ6_bitCount_0f7a4 51 = .ok (.iand, 1) := by decide +kernel
theorem dJ6_bitCount_0f7a4_52 : decode cJ6_bitCount_0f7a4 52 = .ok (.ireturn, 1) := by decide +kernel
theorem dJ7_fill_53178_0 : decode cJ7_fill_53178 0 = .ok (.iconst 0, 1) := by decide +kernel
theorem dJ7_fill_53178_1 : decode cJ7_fill_53178 1 = .ok (.istore_n 2, 1) := by decide +kernel
theorem dJ7_fill_53178_2 : decode cJ7_fill_53178 2 = .ok (.aload_n 0, 1) := by decide +kernel
theorem dJ7_fill_53178_3 : decode cJ7_fill_53178 3 = .ok (.arraylength, 1) := by decide +kernel
theorem dJ7_fill_53178_4 : decode cJ7_fill_53178 4 = .ok (.istore_n 3, 1) := by decide +kernel
theorem dJ7_fill_53178_5 : decode cJ7_fill_53178 5 = .ok (.iload_n 2, 1) := by decide +kernel
theorem dJ7_fill_53178_6 : decode cJ7_fill_53178 6 = .ok (.iload_n 3, 1) := by decide +kernel
theorem dJ7_fill_53178_7 : decode cJ7_fill_53178 7 = .ok (.if_icmp .ge 13, 3) := by decide +kernel
theorem dJ7_fill_53178_10 : decode cJ7_fill_53178 10 = .ok (.aload_n 0, 1) := by decide +kernel
theorem dJ7_fill_53178_11 : decode cJ7_fill_53178 11 = .ok (.iload_n 2, 1) := by decide +kernel
theorem dJ7_fill_53178_12 : decode cJ7_fill_53178 12 = .ok (.iload_n 1, 1) := by decide +kernel
theorem dJ7_fill_53178_13 : decode cJ7_fill_53178 13 = .ok (.iastore, 1) := by decide +kernel
theorem dJ7_fill_53178_14 : decode cJ7_fill_53178 14 = .ok (.iinc 2 1, 3) := by decide +kernel
theorem dJ7_fill_53178_17 : decode cJ7_fill_53178 17 = .ok (.goto (-12), 3) := by decide +kernel
theorem dJ7_fill_53178_20 : decode cJ7_fill_53178 20 = .ok (.return_, 1) := by decide +kernel
end
section
theorem dX5_init_0 : decode cX5_init 0 = .ok (.aload_n 0, 1) := by decide +kernel
theorem dX5_init_1 : decode cX5_init 1 = .ok (.invokespecial 3, 3) := by decide +kernel
theorem dX5_init_4 : decode cX5_init 4 = .ok (.aload_n 0, 1) := by decide +kernel
theorem dX5_init_5 : decode cX5_init 5 = .ok (.bipush 7, 2) := by decide +kernel
theorem dX5_init_7 : decode cX5_init 7 = .ok (.newarray .int, 2) := by decide +kernel
theorem dX5_init_9 : decode cX5_init 9 = .ok (.putfield 9, 3) := by decide +kernel
theorem dX5_init_12 : decode cX5_init 12 = .ok (.aload_n 0, 1) := by decide +kernel
theorem dX5_init_13 : decode cX5_init 13 = .ok (.bipush 6, 2) := by decide +kernel
theorem dX5_init_15 : decode cX5_init 15 = .ok (.newarray .int, 2) := by decide +kernel
theorem dX5_init_17 : decode cX5_init 17 = .ok (.putfield 15, 3) := by decide +kernel
theorem dX5_init_20 : decode cX5_init 20 = .ok (.aload_n 0, 1) := by decide +kernel
theorem dX5_init_21 : decode cX5_init 21 = .ok (.bipush 7, 2) := by decide +kernel
theorem dX5_init_23 : decode cX5_init 23 = .ok (.newarray .int, 2) := by decide +kernel
theorem dX5_init_25 : decode cX5_init 25 = .ok (.putfield 18, 3) := by decide +kernel
theorem dX5_init_28 : decode cX5_init 28 = .ok (.aload_n 0, 1) := by decide +kernel
theorem dX5_init_29 : decode cX5_init 29 = .ok (.bipush 6, 2) := by decide +kernel
theorem dX5_init_31 : decode cX5_init 31 = .ok (.newarray .int, 2) := by decide +kernel
theorem dX5_init_33 : decode cX5_init 33 = .ok (.putfield 21, 3) := by decide +kernel
theorem dX5_init_36 : decode cX5_init 36 = .ok (.aload_n 0, 1) := by decide +kernel
theorem dX5_init_37 : decode cX5_init 37 = .ok (.bipush 7, 2) := by decide +kernel
theorem dX5_init_39 : decode cX5_init 39 = .ok (.newarray .int, 2) := by decide +kernel
theorem dX5_init_41 : decode cX5_init 41 = .ok (.putfield 24, 3) := by decide +kernel
theorem dX5_init_44 : decode cX5_init 44 = .ok (.aload_n 0, 1) := by decide +kernel
theorem dX5_init_45 : decode cX5_init 45 = .ok (.bipush 7, 2) := by decide +kernel
theorem dX5_init_47 : decode cX5_init 47 = .ok (.bipush 10, 2) := by decide +kernel
theorem dX5_init_49 : decode cX5_init 49 = .ok (.multianewarray 27 2, 4) := by decide +kernel
theorem dX5_init_53 : decode cX5_init 53 = .ok (.putfield 29, 3) := by decide +kernel
theorem dX5_init_56 : decode cX5_init 56 = .ok (.aload_n 0, 1) := by decide +kernel
theorem dX5_init_57 : decode cX5_init 57 = .ok (.aload_n 1, 1) := by decide +kernel
theorem dX5_init_58 : decode cX5_init 58 = .ok (.putfield 32, 3) := by decide +kernel
theorem dX5_init_61 : decode cX5_init 61 = .ok (.aload_n 0, 1) := by decide +kernel
theorem dX5_init_62 : decode cX5_init 62 = .ok (.aload_n 2, 1) := by decide +kernel
theorem dX5_init_63 : decode cX5_init 63 = .ok (.putfield 36, 3) := by decide +kernel
theorem dX5_init_66 : decode cX5_init 66 = .ok (.return_, 1) := by decide +kernel
theorem dX5_gather_0 : decode cX5_gather 0 = .ok (.aload_n 1, 1) := by decide +kernel
theorem dX5_gather_1 : decode cX5_gather 1 = .ok (.iconst 0, 1) := by decide +kernel
theorem dX5_gather_2 : decode cX5_gather 2 = .ok (.aload_n 0, 1) := by decide +kernel
theorem dX5_gather_3 : decode cX5_gather 3 = .ok (.getfield 9, 3) := by decide +kernel
theorem dX5_gather_6 : decode cX5_gather 6 = .ok (.iconst 0, 1) := by decide +kernel
theorem dX5_gather_7 : decode cX5_gather 7 = .ok (.bipush 7, 2) := by decide +kernel
theorem dX5_gather_9 : decode cX5_gather 9 = .ok (.invokestatic 40, 3) := by decide +kernel
theorem dX5_gather_12 : decode cX5_gather 12 = .ok (.aload_n 0, 1) := by decide +kernel
theorem dX5_gather_13 : decode cX5_gather 13 = .ok (.getfield 18, 3) := by decide +kernel
theorem dX5_gather_16 : decode cX5_gather 16 = .ok (.bipush (-6), 2) := by decide +kernel
theorem dX5_gather_18 : decode cX5_gather 18 = .ok (.invokestatic 46, 3) := by decide +kernel
theorem dX5_gather_21 : decode cX5_gather 21 = .ok (.aload_n 0, 1) := by decide +kernel
theorem dX5_gather_22 : decode cX5_gather 22 = .ok (.getfield 24, 3) := by decide +kernel
theorem dX5_gather_25 : decode cX5_gather 25 = .ok (.iconst 0, 1) := by decide +kernel
theorem dX5_gather_26 : decode cX5_gather 26 = .ok (.invokestatic 46, 3) := by decide +kernel
theorem dX5_gather_29 : decode cX5_gather 29 = .ok (.iconst 0, 1) := by decide +kernel
theorem dX5_gather_30 : decode cX5_gather 30 = .ok (.istore_n 3, 1) := by decide +kernel
theorem dX5_gather_31 : decode cX5_gather 31 = .ok (.iload_n 3, 1) := by decide +kernel
theorem dX5_gather_32 : decode cX5_gather 32 = .ok (.bipush 7, 2) := by decide +kernel
theorem dX5_gather_34 : decode cX5_gather 34 = .ok (.if_icmp .ge 19, 3) := by decide +kernel
theorem dX5_gather_37 : decode cX5_gather 37 = .ok (.aload_n 0, 1) := by decide +kernel
theorem dX5_gather_38 : decode cX5_gather 38 = .ok (.getfield 29, 3) := by decide +kernel
theorem dX5_gather_41 : decode cX5_gather 41 = .ok (.iload_n 3, 1) := by decide +kernel
theorem dX5_gather_42 : decode cX5_gather 42 = .ok (.aaload, 1) := by decide +kernel
theorem dX5_gather_43 : decode cX5_gather 43 = .ok (.iconst 0, 1) := by decide +kernel
theorem dX5_gather_44 : decode cX5_gather 44 = .ok (.invokestatic 46, 3) := by decide +kernel
theorem dX5_gather_47 : decode cX5_gather 47 = .ok (.iinc 3 1, 3) := by decide +kernel
theorem dX5_gather_50 : decode cX5_gather 50 = .ok (.goto (-19), 3) := by decide +kernel
theorem dX5_gather_53 : decode cX5_gather 53 = .ok (.aload_n 0, 1) := by decide +kernel
theorem dX5_gather_54 : decode cX5_gather 54 = .ok (.iconst 0, 1) := by decide +kernel
theorem dX5_gather_55 : decode cX5_gather 55 = .ok (.putfield 52, 3) := by decide +kernel
theorem dX5_gather_58 : decode cX5_gather 58 = .ok (.aload_n 0, 1) := by decide +kernel
theorem dX5_gather_59 : decode cX5_gather 59 = .ok (.bipush (-6), 2) := by decide +kernel
theorem dX5_gather_61 : decode cX5_gather 61 = .ok (.putfield 56, 3) := by decide +kernel
theorem dX5_gather_64 : decode cX5_gather 64 = .ok (.aload_n 0, 1) := by decide +kernel
theorem dX5_gather_65 : decode cX5_gather 65 = .ok (.iconst 0, 1) := by decide +kernel
theorem dX5_gather_66 : decode cX5_gather 66 = .ok (.putfield 59, 3) := by decide +kernel
theorem dX5_gather_69 : decode cX5_gather 69 = .ok (.aload_n 0, 1) := by decide +kernel
theorem dX5_gather_70 : decode cX5_gather 70 = .ok (.iconst 0, 1) := by decide +kernel
theorem dX5_gather_71 : decode cX5_gather 71 = .ok (.putfield 62, 3) := by decide +kernel
theorem dX5_gather_74 : decode cX5_gather 74 = .ok (.aload_n 0, 1) := by decide +kernel
theorem dX5_gather_75 : decode cX5_gather 75 = .ok (.getfield 36, 3) := by decide +kernel
theorem dX5_gather_78 : decode cX5_gather 78 = .ok (.invokevirtual 65, 3) := by decide +kernel
theorem dX5_gather_81 : decode cX5_gather 81 = .ok (.aload_n 0, 1) := by decide +kernel
theorem dX5_gather_82 : decode cX5_gather 82 = .ok (.iconst 0, 1) := by decide +kernel
theorem dX5_gather_83 : decode cX5_gather 83 = .ok (.iconst 0, 1) := by decide +kernel
theorem dX5_gather_84 : decode cX5_gather 84 = .ok (.iload_n 2, 1) := by decide +kernel
theorem dX5_gather_85 : decode cX5_gather 85 = .ok (.bipush 6, 2) := by decide +kernel
theorem dX5_gather_87 : decode cX5_gather 87 = .ok (.invokestatic 70, 3) := by decide +kernel
theorem dX5_gather_90 : decode cX5_gather 90 = .ok (.invokevirtual 76, 3) := by decide +kernel
theorem dX5_gather_93 : decode cX5_gather 93 = .ok (.return_, 1) := by decide +kernel
theorem dX5_walk_0 : decode cX5_walk 0 = .ok (.aload_n 0, 1) := by decide +kernel
theorem dX5_walk_1 : decode cX5_walk 1 = .ok (.getfield 36, 3) := by decide +kernel
theorem dX5_walk_4 : decode cX5_walk 4 = .ok (.aload_n 0, 1) := by decide +kernel
theorem dX5_walk_5 : decode cX5_walk 5 = .ok (.getfield 9, 3) := by decide +kernel
theorem dX5_walk_8 : decode cX5_walk 8 = .ok (.invokevirtual 80, 3) := by decide +kernel
theorem dX5_walk_11 : decode cX5_walk 11 = .ok (.istore 4, 2) := by decide +kernel
theorem dX5_walk_13 : decode cX5_walk 13 = .ok (.iload 4, 2) := by decide +kernel
theorem dX5_walk_15 : decode cX5_walk 15 = .ok (.ifCond .ne 9, 3) := by decide +kernel
theorem dX5_walk_18 : decode cX5_walk 18 = .ok (.aload_n 0, 1) := by decide +kernel
theorem dX5_walk_19 : decode cX5_walk 19 = .ok (.iload_n 1, 1) := by decide +kernel
theorem dX5_walk_20 : decode cX5_walk 20 = .ok (.iload_n 2, 1) := by decide +kernel
theorem dX5_walk_21 : decode cX5_walk 21 = .ok (.invokevirtual 84, 3) := by decide +kernel
theorem dX5_walk_24 : decode cX5_walk 24 = .ok (.iload 4, 2) := by decide +kernel
theorem dX5_walk_26 : decode cX5_walk 26 = .ok (.bipush (-6), 2) := by decide +kernel
theorem dX5_walk_28 : decode cX5_walk 28 = .ok (.if_icmp .eq 8, 3) := by decide +kernel
theorem dX5_walk_31 : decode cX5_walk 31 = .ok (.iload_n 1, 1) := by decide +kernel
theorem dX5_walk_32 : decode cX5_walk 32 = .ok (.iload_n 3, 1) := by decide +kernel
theorem dX5_walk_33 : decode cX5_walk 33 = .ok (.if_icmp .lt 4, 3) := by decide +kernel
theorem dX5_walk_36 : decode cX5_walk 36 = .ok (.return_, 1) := by decide +kernel
theorem dX5_walk_37 : decode cX5_walk 37 = .ok (.iconst 0, 1) := by decide +kernel
theorem dX5_walk_38 : decode cX5_walk 38 = .ok (.istore 5, 2) := by decide +kernel
theorem dX5_walk_40 : decode cX5_walk 40 = .ok (.iload 5, 2) := by decide +kernel
theorem dX5_walk_42 : decode cX5_walk 42 = .ok (.iconst 4, 1) := by decide +kernel
theorem dX5_walk_43 : decode cX5_walk 43 = .ok (.if_icmp .ge 151, 3) := by decide +kernel
theorem dX5_walk_46 : decode cX5_walk 46 = .ok (.aload_n 0, 1) := by decide +kernel
theorem dX5_walk_47 : decode cX5_walk 47 = .ok (.getfield 32, 3) := by decide +kernel
theorem dX5_walk_50 : decode cX5_walk 50 = .ok (.iload 5, 2) := by decide +kernel
theorem dX5_walk_52 : decode cX5_walk 52 = .ok (.invokevirtual 88, 3) := by decide +kernel
theorem dX5_walk_55 : decode cX5_walk 55 = .ok (.ifCond .eq 15, 3) := by decide +kernel
theorem dX5_walk_58 : decode cX5_walk 58 = .ok (.aload_n 0, 1) := by decide +kernel
theorem dX5_walk_59 : decode cX5_walk 59 = .ok (.getfield 36, 3) := by decide +kernel
theorem dX5_walk_62 : decode cX5_walk 62 = .ok (.iload 5, 2) := by decide +kernel
theorem dX5_walk_64 : decode cX5_walk 64 = .ok (.invokevirtual 94, 3) := by decide +kernel
theorem dX5_walk_67 : decode cX5_walk 67 = .ok (.goto 5, 3) := by decide +kernel
theorem dX5_walk_70 : decode cX5_walk 70 = .ok (.bipush (-6), 2) := by decide +kernel
theorem dX5_walk_72 : decode cX5_walk 72 = .ok (.istore 6, 2) := by decide +kernel
theorem dX5_walk_74 : decode cX5_walk 74 = .ok (.iload 6, 2) := by decide +kernel
theorem dX5_walk_76 : decode cX5_walk 76 = .ok (.bipush (-6), 2) := by decide +kernel
theorem dX5_walk_78 : decode cX5_walk 78 = .ok (.if_icmp .ne 6, 3) := by decide +kernel
theorem dX5_walk_81 : decode cX5_walk 81 = .ok (.goto 107, 3) := by decide +kernel
theorem dX5_walk_84 : decode cX5_walk 84 = .ok (.aload_n 0, 1) := by decide +kernel
theorem dX5_walk_85 : decode cX5_walk 85 = .ok (.getfield 36, 3) := by decide +kernel
theorem dX5_walk_88 : decode cX5_walk 88 = .ok (.getfield 98, 3) := by decide +kernel
theorem dX5_walk_91 : decode cX5_walk 91 = .ok (.istore 7, 2) := by decide +kernel
theorem dX5_walk_93 : decode cX5_walk 93 = .ok (.aload_n 0, 1) := by decide +kernel
theorem dX5_walk_94 : decode cX5_walk 94 = .ok (.getfield 36, 3) := by decide +kernel
theorem dX5_walk_97 : decode cX5_walk 97 = .ok (.iload 5, 2) := by decide +kernel
theorem dX5_walk_99 : decode cX5_walk 99 = .ok (.iload 6, 2) := by decide +kernel
theorem dX5_walk_101 : decode cX5_walk 101 = .ok (.invokevirtual 101, 3) := by decide +kernel
theorem dX5_walk_104 : decode cX5_walk 104 = .ok (.istore 8, 2) := by decide +kernel
theorem dX5_walk_106 : decode cX5_walk 106 = .ok (.aload_n 0, 1) := by decide +kernel
theorem dX5_walk_107 : decode cX5_walk 107 = .ok (.getfield 18, 3) := by decide +kernel
theorem dX5_walk_110 : decode cX5_walk 110 = .ok (.iload 6, 2) := by decide +kernel
theorem dX5_walk_112 : decode cX5_walk 112 = .ok (.iaload, 1) := by decide +kernel
theorem dX5_walk_113 : decode cX5_walk 113 = .ok (.bipush (-6), 2) := by decide +kernel
theorem dX5_walk_115 : decode cX5_walk 115 = .ok (.if_icmp .ne 7, 3) := by decide +kernel
theorem dX5_walk_118 : decode cX5_walk 118 = .ok (.iconst 1, 1) := by decide +kernel
theorem dX5_walk_119 : decode cX5_walk 119 = .ok (.goto 4, 3) := by decide +kernel
theorem dX5_walk_122 : decode cX5_walk 122 = .ok (.iconst 0, 1) := by decide +kernel
theorem dX5_walk_123 : decode cX5_walk 123 = .ok (.istore 9, 2) := by decide +kernel
theorem dX5_walk_125 : decode cX5_walk 125 = .ok (.iload 9, 2) := by decide +kernel
theorem dX5_walk_127 : decode cX5_walk 127 = .ok (.ifCond .eq 12, 3) := by decide +kernel
theorem dX5_walk_130 : decode cX5_walk 130 = .ok (.aload_n 0, 1) := by decide +kernel
theorem dX5_walk_131 : decode cX5_walk 131 = .ok (.getfield 18, 3) := by decide +kernel
theorem dX5_walk_134 : decode cX5_walk 134 = .ok (.iload 6, 2) := by decide +kernel
theorem dX5_walk_136 : decode cX5_walk 136 = .ok (.iload 5, 2) := by decide +kernel
theorem dX5_walk_138 : decode cX5_walk 138 = .ok (.iastore, 1) := by decide +kernel
theorem dX5_walk_139 : decode cX5_walk 139 = .ok (.aload_n 0, 1) := by decide +kernel
theorem dX5_walk_140 : decode cX5_walk 140 = .ok (.getfield 15, 3) := by decide +kernel
theorem dX5_walk_143 : decode cX5_walk 143 = .ok (.iload_n 1, 1) := by decide +kernel
theorem dX5_walk_144 : decode cX5_walk 144 = .ok (.iload 5, 2) := by decide +kernel
theorem dX5_walk_146 : decode cX5_walk 146 = .ok (.iastore, 1) := by decide +kernel
theorem dX5_walk_147 : decode cX5_walk 147 = .ok (.aload_n 0, 1) := by decide +kernel
theorem dX5_walk_148 : decode cX5_walk 148 = .ok (.iload_n 1, 1) := by decide +kernel
theorem dX5_walk_149 : decode cX5_walk 149 = .ok (.iconst 1, 1) := by decide +kernel
theorem dX5_walk_150 : decode cX5_walk 150 = .ok (.iadd, 1) := by decide +kernel
theorem dX5_walk_151 : decode cX5_walk 151 = .ok (.iload_n 2, 1) := by decide +kernel
theorem dX5_walk_152 : decode cX5_walk 152 = .ok (.iconst 1, 1) := by decide +kernel
theorem dX5_walk_153 : decode cX5_walk 153 = .ok (.iload 5, 2) := by decide +kernel
theorem dX5_walk_155 : decode cX5_walk 155 = .ok (.ishl, 1) := by decide +kernel
theorem dX5_walk_156 : decode cX5_walk 156 = .ok (.ior, 1) := by decide +kernel
theorem dX5_walk_157 : decode cX5_walk 157 = .ok (.iload_n 3, 1) := by decide +kernel
theorem dX5_walk_158 : decode cX5_walk 158 = .ok (.invokevirtual 76, 3) := by decide +kernel
theorem dX5_walk_161 : decode cX5_walk 161 = .ok (.iload 9, 2) := by decide +kernel
theorem dX5_walk_163 : decode cX5_walk 163 = .ok (.ifCond .eq 12, 3) := by decide +kernel
theorem dX5_walk_166 : decode cX5_walk 166 = .ok (.aload_n 0, 1) := by decide +kernel
theorem dX5_walk_167 : decode cX5_walk 167 = .ok (.getfield 18, 3) := by decide +kernel
theorem dX5_walk_170 : decode cX5_walk 170 = .ok (.iload 6, 2) := by decide +kernel
theorem dX5_walk_172 : decode cX5_walk 172 = .ok (.bipush (-6), 2) := by decide +kernel
theorem dX5_walk_174 : decode cX5_walk 174 = .ok (.iastore, 1) := by decide +kernel
theorem dX5_walk_175 : decode cX5_walk 175 = .ok (.aload_n 0, 1) := by decide +kernel
theorem dX5_walk_176 : decode cX5_walk 176 = .ok (.getfield 36, 3) := by decide +kernel
theorem dX5_walk_179 : decode cX5_walk 179 = .ok (.iload 6, 2) := by decide +kernel
theorem dX5_walk_181 : decode cX5_walk 181 = .ok (.iload 8, 2) := by decide +kernel
theorem dX5_walk_183 : decode cX5_walk 183 = .ok (.iload 7, 2) := by decide +kernel
theorem dX5_walk_185 : decode cX5_walk 185 = .ok (.invokevirtual 104, 3) := by decide +kernel
theorem dX5_walk_188 : decode cX5_walk 188 = .ok (.iinc 5 1, 3) := by decide +kernel
theorem dX5_walk_191 : decode cX5_walk 191 = .ok (.goto (-151), 3) := by decide +kernel
theorem dX5_walk_194 : decode cX5_walk 194 = .ok (.return_, 1) := by decide +kernel
theorem dX5_note_0 : decode cX5_note 0 = .ok (.aload_n 0, 1) := by decide +kernel
theorem dX5_note_1 : decode cX5_note 1 = .ok (.aload_n 0, 1) := by decide +kernel
theorem dX5_note_2 : decode cX5_note 2 = .ok (.getfield 52, 3) := by decide +kernel
theorem dX5_note_5 : decode cX5_note 5 = .ok (.ifCond .ne 7, 3) := by decide +kernel
theorem dX5_note_8 : decode cX5_note 8 = .ok (.iload_n 2, 1) := by decide +kernel
theorem dX5_note_9 : decode cX5_note 9 = .ok (.goto 9, 3) := by decide +kernel
theorem dX5_note_12 : decode cX5_note 12 = .ok (.aload_n 0, 1) := by decide +kernel
theorem dX5_note_13 : decode cX5_note 13 = .ok (.getfield 59, 3) := by decide +kernel
theorem dX5_note_16 : decode cX5_note 16 = .ok (.iload_n 2, 1) := by decide +kernel
theorem dX5_note_17 : decode cX5_note 17 = .ok (.iand, 1) := by decide +kernel
theorem dX5_note_18 : decode cX5_note 18 = .ok (.putfield 59, 3) := by decide +kernel
theorem dX5_note_21 : decode cX5_note 21 = .ok (.aload_n 0, 1) := by decide +kernel
theorem dX5_note_22 : decode cX5_note 22 = .ok (.dup, 1) := by decide +kernel
theorem dX5_note_23 : decode cX5_note 23 = .ok (.getfield 62, 3) := by decide +kernel
theorem dX5_note_26 : decode cX5_note 26 = .ok (.iload_n 2, 1) := by decide +kernel
theorem dX5_note_27 : decode cX5_note 27 = .ok (.ior, 1) := by decide +kernel
theorem dX5_note_28 : decode cX5_note 28 = .ok (.putfield 62, 3) := by decide +kernel
theorem dX5_note_31 : decode cX5_note 31 = .ok (.aload_n 0, 1) := by decide +kernel
theorem dX5_note_32 : decode cX5_note 32 = .ok (.getfield 52, 3) := by decide +kernel
theorem dX5_note_35 : decode cX5_note 35 = .ok (.ifCond .eq 11, 3) := by decide +kernel
theorem dX5_note_38 : decode cX5_note 38 = .ok (.iload_n 1, 1) := by decide +kernel
theorem dX5_note_39 : decode cX5_note 39 = .ok (.aload_n 0, 1) := by decide +kernel
theorem dX5_note_40 : decode cX5_note 40 = .ok (.getfield 56, 3) := by decide +kernel
theorem dX5_note_43 : decode cX5_note 43 = .ok (.if_icmp .ge 22, 3) := by decide +kernel
theorem dX5_note_46 : decode cX5_note 46 = .ok (.aload_n 0, 1) := by decide +kernel
theorem dX5_note_47 : decode cX5_note 47 = .ok (.iload_n 1, 1) := by decide +kernel
theorem dX5_note_48 : decode cX5_note 48 = .ok (.putfield 56, 3) := by decide +kernel
theorem dX5_note_51 : decode cX5_note 51 = .ok (.aload_n 0, 1) := by decide +kernel
theorem dX5_note_52 : decode cX5_note 52 = .ok (.getfield 15, 3) := by decide +kernel
theorem dX5_note_55 : decode cX5_note 55 = .ok (.iconst 0, 1) := by decide +kernel
theorem dX5_note_56 : decode cX5_note 56 = .ok (.aload_n 0, 1) := by decide +kernel
theorem dX5_note_57 : decode cX5_note 57 = .ok (.getfield 21, 3) := by decide +kernel
theorem dX5_note_60 : decode cX5_note 60 = .ok (.iconst 0, 1) := by decide +kernel
theorem dX5_note_61 : decode cX5_note 61 = .ok (.iload_n 1, 1) := by decide +kernel
theorem dX5_note_62 : decode cX5_note 62 = .ok (.invokestatic 40, 3) := by decide +kernel
theorem dX5_note_65 : decode cX5_note 65 = .ok (.aload_n 0, 1) := by decide +kernel
theorem dX5_note_66 : decode cX5_note 66 = .ok (.dup, 1) := by decide +kernel
theorem dX5_note_67 : decode cX5_note 67 = .ok (.getfield 52, 3) := by decide +kernel
theorem dX5_note_70 : decode cX5_note 70 = .ok (.iconst 1, 1) := by decide +kernel
theorem dX5_note_71 : decode cX5_note 71 = .ok (.iadd, 1) := by decide +kernel
theorem dX5_note_72 : decode cX5_note 72 = .ok (.putfield 52, 3) := by decide +kernel
theorem dX5_note_75 : decode cX5_note 75 = .ok (.iconst 0, 1) := by decide +kernel
theorem dX5_note_76 : decode cX5_note 76 = .ok (.istore_n 3, 1) := by decide +kernel
theorem dX5_note_77 : decode cX5_note 77 = .ok (.iload_n 3, 1) := by decide +kernel
theorem dX5_note_78 : decode cX5_note 78 = .ok (.aload_n 0, 1) := by decide +kernel
theorem dX5_note_79 : decode cX5_note 79 = .ok (.getfield 32, 3) := by decide +kernel
theorem dX5_note_82 : decode cX5_note 82 = .ok (.getfield 107, 3) := by decide +kernel
theorem dX5_note_85 : decode cX5_note 85 = .ok (.if_icmp .ge 62, 3) := by decide +kernel
theorem dX5_note_88 : decode cX5_note 88 = .ok (.aload_n 0, 1) := by decide +kernel
theorem dX5_note_89 : decode cX5_note 89 = .ok (.getfield 24, 3) := by decide +kernel
theorem dX5_note_92 : decode cX5_note 92 = .ok (.iload_n 3, 1) := by decide +kernel
theorem dX5_note_93 : decode cX5_note 93 = .ok (.dup2, 1) := by decide +kernel
theorem dX5_note_94 : decode cX5_note 94 = .ok (.iaload, 1) := by decide +kernel
theorem dX5_note_95 : decode cX5_note 95 = .ok (.aload_n 0, 1) := by decide +kernel
theorem dX5_note_96 : decode cX5_note 96 = .ok (.getfield 18, 3) := by decide +kernel
theorem dX5_note_99 : decode cX5_note 99 = .ok (.iload_n 3, 1) := by decide +kernel
theorem dX5_note_100 : decode cX5_note 100 = .ok (.iaload, 1) := by decide +kernel
theorem dX5_note_101 : decode cX5_note 101 = .ok (.bipush (-6), 2) := by decide +kernel
theorem dX5_note_103 : decode cX5_note 103 = .ok (.if_icmp .ne 8, 3) := by decide +kernel
theorem dX5_note_106 : decode cX5_note 106 = .ok (.bipush 16, 2) := by decide +kernel
theorem dX5_note_108 : decode cX5_note 108 = .ok (.goto 11, 3) := by decide +kernel
theorem dX5_note_111 : decode cX5_note 111 = .ok (.iconst 1, 1) := by decide +kernel
theorem dX5_note_112 : decode cX5_note 112 = .ok (.aload_n 0, 1) := by decide +kernel
theorem dX5_note_113 : decode cX5_note 113 = .ok (.getfield 18, 3) := by decide +kernel
theorem dX5_note_116 : decode cX5_note 116 = .ok (.iload_n 3, 1) := by decide +kernel
theorem dX5_note_117 : decode cX5_note 117 = .ok (.iaload, 1) := by decide +kernel
theorem dX5_note_118 : decode cX5_note 118 = .ok (.ishl, 1) := by decide +kernel
theorem dX5_note_119 : decode cX5_note 119 = .ok (.ior, 1) := by decide +kernel
theorem dX5_note_120 : decode cX5_note 120 = .ok (.iastore, 1) := by decide +kernel
theorem dX5_note_121 : decode cX5_note 121 = .ok (.aload_n 0, 1) := by decide +kernel
theorem dX5_note_122 : decode cX5_note 122 = .ok (.getfield 29, 3) := by decide +kernel
theorem dX5_note_125 : decode cX5_note 125 = .ok (.iload_n 3, 1) := by decide +kernel
theorem dX5_note_126 : decode cX5_note 126 = .ok (.aaload, 1) := by decide +kernel
theorem dX5_note_127 : decode cX5_note 127 = .ok (.aload_n 0, 1) := by decide +kernel
theorem dX5_note_128 : decode cX5_note 128 = .ok (.getfield 36, 3) := by decide +kernel
theorem dX5_note_131 : decode cX5_note 131 = .ok (.getfield 110, 3) := by decide +kernel
theorem dX5_note_134 : decode cX5_note 134 = .ok (.iload_n 3, 1) := by decide +kernel
theorem dX5_note_135 : decode cX5_note 135 = .ok (.iaload, 1) := by decide +kernel
theorem dX5_note_136 : decode cX5_note 136 = .ok (.dup2, 1) := by decide +kernel
theorem dX5_note_137 : decode cX5_note 137 = .ok (.iaload, 1) := by decide +kernel
theorem dX5_note_138 : decode cX5_note 138 = .ok (.iconst 1, 1) := by decide +kernel
theorem dX5_note_139 : decode cX5_note 139 = .ok (.iadd, 1) := by decide +kernel
theorem dX5_note_140 : decode cX5_note 140 = .ok (.iastore, 1) := by decide +kernel
theorem dX5_note_141 : decode cX5_note 141 = .ok (.iinc 3 1, 3) := by decide +kernel
theorem dX5_note_144 : decode cX5_note 144 = .ok (.goto (-67), 3) := by decide +kernel
theorem dX5_note_147 : decode cX5_note 147 = .ok (.return_, 1) := by decide +kernel
theorem dX5_atPlace_0 : decode cX5_atPlace 0 = .ok (.iload_n 1, 1) := by decide +kernel
theorem dX5_atPlace_1 : decode cX5_atPlace 1 = .ok (.ifCond .lt 26, 3) := by decide +kernel
theorem dX5_atPlace_4 : decode cX5_atPlace 4 = .ok (.iload_n 1, 1) := by decide +kernel
theorem dX5_atPlace_5 : decode cX5_atPlace 5 = .ok (.aload_n 0, 1) := by decide +kernel
theorem dX5_atPlace_6 : decode cX5_atPlace 6 = .ok (.getfield 56, 3) := by decide +kernel
theorem dX5_atPlace_9 : decode cX5_atPlace 9 = .ok (.if_icmp .ge 18, 3) := by decide +kernel
theorem dX5_atPlace_12 : decode cX5_atPlace 12 = .ok (.iload_n 1, 1) := by decide +kernel
theorem dX5_atPlace_13 : decode cX5_atPlace 13 = .ok (.bipush 6, 2) := by decide +kernel
theorem dX5_atPlace_15 : decode cX5_atPlace 15 = .ok (.if_icmp .ge 12, 3) := by decide +kernel
theorem dX5_atPlace_18 : decode cX5_atPlace 18 = .ok (.aload_n 0, 1) := by decide +kernel
theorem dX5_atPlace_19 : decode cX5_atPlace 19 = .ok (.getfield 21, 3) := by decide +kernel
theorem dX5_atPlace_22 : decode cX5_atPlace 22 = .ok (.iload_n 1, 1) := by decide +kernel
theorem dX5_atPlace_23 : decode cX5_atPlace 23 = .ok (.iaload, 1) := by decide +kernel
theorem dX5_atPlace_24 : decode cX5_atPlace 24 = .ok (.goto 5, 3) := by decide +kernel
theorem dX5_atPlace_27 : decode cX5_atPlace 27 = .ok (.bipush (-6), 2) := by decide +kernel
theorem dX5_atPlace_29 : decode cX5_atPlace 29 = .ok (.ireturn, 1) := by decide +kernel
theorem dX5_bestToLookAt_0 : decode cX5_bestToLookAt 0 = .ok (.aload_n 0, 1) := by decide +kernel
theorem dX5_bestToLookAt_1 : decode cX5_bestToLookAt 1 = .ok (.getfield 52, 3) := by decide +kernel
theorem dX5_bestToLookAt_4 : decode cX5_bestToLookAt 4 = .ok (.ifCond .ne 6, 3) := by decide +kernel
theorem dX5_bestToLookAt_7 : decode cX5_bestToLookAt 7 = .ok (.bipush (-6), 2) := by decide +kernel
theorem dX5_bestToLookAt_9 : decode cX5_bestToLookAt 9 = .ok (.ireturn, 1) := by decide +kernel
theorem dX5_bestToLookAt_10 : decode cX5_bestToLookAt 10 = .ok (.bipush (-6), 2) := by decide +kernel
theorem dX5_bestToLookAt_12 : decode cX5_bestToLookAt 12 = .ok (.istore_n 1, 1) := by decide +kernel
theorem dX5_bestToLookAt_13 : decode cX5_bestToLookAt 13 = .ok (.iconst 0, 1) := by decide +kernel
theorem dX5_bestToLookAt_14 : decode cX5_bestToLookAt 14 = .ok (.istore_n 2, 1) := by decide +kernel
theorem dX5_bestToLookAt_15 : decode cX5_bestToLookAt 15 = .ok (.iconst 0, 1) := by decide +kernel
theorem dX5_bestToLookAt_16 : decode cX5_bestToLookAt 16 = .ok (.istore_n 3, 1) := by decide +kernel
theorem dX5_bestToLookAt_17 : decode cX5_bestToLookAt 17 = .ok (.iload_n 3, 1) := by decide +kernel
theorem dX5_bestToLookAt_18 : decode cX5_bestToLookAt 18 = .ok (.aload_n 0, 1) := by decide +kernel
theorem dX5_bestToLookAt_19 : decode cX5_bestToLookAt 19 = .ok (.getfield 32, 3) := by decide +kernel
theorem dX5_bestToLookAt_22 : decode cX5_bestToLookAt 22 = .ok (.getfield 107, 3) := by decide +kernel
theorem dX5_bestToLookAt_25 : decode cX5_bestToLookAt 25 = .ok (.if_icmp .ge 47, 3) := by decide +kernel
theorem dX5_bestToLookAt_28 : decode cX5_bestToLookAt 28 = .ok (.aload_n 0, 1) := by decide +kernel
theorem dX5_bestToLookAt_29 : decode cX5_bestToLookAt 29 = .ok (.getfield 9, 3) := by decide +kernel
theorem dX5_bestToLookAt_32 : decode cX5_bestToLookAt 32 = .ok (.iload_n 3, 1) := by decide +kernel
theorem dX5_bestToLookAt_33 : decode cX5_bestToLookAt 33 = .ok (.iaload, 1) := by decide +kernel
theorem dX5_bestToLookAt_34 : decode cX5_bestToLookAt 34 = .ok (.bipush (-6), 2) := by decide +kernel
theorem dX5_bestToLookAt_36 : decode cX5_bestToLookAt 36 = .ok (.if_icmp .eq 6, 3) := by decide +kernel
theorem dX5_bestToLookAt_39 : decode cX5_bestToLookAt 39 = .ok (.goto 27, 3) := by decide +kernel
theorem dX5_bestToLookAt_42 : decode cX5_bestToLookAt 42 = .ok (.aload_n 0, 1) := by decide +kernel
theorem dX5_bestToLookAt_43 : decode cX5_bestToLookAt 43 = .ok (.iload_n 3, 1) := by decide +kernel
theorem dX5_bestToLookAt_44 : decode cX5_bestToLookAt 44 = .ok (.invokevirtual 113, 3) := by decide +kernel
theorem dX5_bestToLookAt_47 : decode cX5_bestToLookAt 47 = .ok (.istore 4, 2) := by decide +kernel
theorem dX5_bestToLookAt_49 : decode cX5_bestToLookAt 49 = .ok (.iload_n 1, 1) := by decide +kernel
theorem dX5_bestToLookAt_50 : decode cX5_bestToLookAt 50 = .ok (.bipush (-6), 2) := by decide +kernel
theorem dX5_bestToLookAt_52 : decode cX5_bestToLookAt 52 = .ok (.if_icmp .eq 9, 3) := by decide +kernel
theorem dX5_bestToLookAt_55 : decode cX5_bestToLookAt 55 = .ok (.iload 4, 2) := by decide +kernel
theorem dX5_bestToLookAt_57 : decode cX5_bestToLookAt 57 = .ok (.iload_n 2, 1) := by decide +kernel
theorem dX5_bestToLookAt_58 : decode cX5_bestToLookAt 58 = .ok (.if_icmp .ge 8, 3) := by decide +kernel
theorem dX5_bestToLookAt_61 : decode cX5_bestToLookAt 61 = .ok (.iload_n 3, 1) := by decide +kernel
theorem dX5_bestToLookAt_62 : decode cX5_bestToLookAt 62 = .ok (.istore_n 1, 1) := by decide +kernel
theorem dX5_bestToLookAt_63 : decode cX5_bestToLookAt 63 = .ok (.iload 4, 2) := by decide +kernel
theorem dX5_bestToLookAt_65 : decode cX5_bestToLookAt 65 = .ok (.istore_n 2, 1) := by decide +kernel
theorem dX5_bestToLookAt_66 : decode cX5_bestToLookAt 66 = .ok (.iinc 3 1, 3) := by decide +kernel
theorem dX5_bestToLookAt_69 : decode cX5_bestToLookAt 69 = .ok (.goto (-52), 3) := by decide +kernel
theorem dX5_bestToLookAt_72 : decode cX5_bestToLookAt 72 = .ok (.iload_n 1, 1) := by decide +kernel
theorem dX5_bestToLookAt_73 : decode cX5_bestToLookAt 73 = .ok (.ireturn, 1) := by decide +kernel
theorem dX5_mostLeftOver_0 : decode cX5_mostLeftOver 0 = .ok (.iconst 0, 1) := by decide +kernel
theorem dX5_mostLeftOver_1 : decode cX5_mostLeftOver 1 = .ok (.istore_n 2, 1) := by decide +kernel
theorem dX5_mostLeftOver_2 : decode cX5_mostLeftOver 2 = .ok (.iconst 0, 1) := by decide +kernel
theorem dX5_mostLeftOver_3 : decode cX5_mostLeftOver 3 = .ok (.istore_n 3, 1) := by decide +kernel
theorem dX5_mostLeftOver_4 : decode cX5_mostLeftOver 4 = .ok (.iload_n 3, 1) := by decide +kernel
theorem dX5_mostLeftOver_5 : decode cX5_mostLeftOver 5 = .ok (.bipush 9, 2) := by decide +kernel
theorem dX5_mostLeftOver_7 : decode cX5_mostLeftOver 7 = .ok (.if_icmp .gt 22, 3) := by decide +kernel
theorem dX5_mostLeftOver_10 : decode cX5_mostLeftOver 10 = .ok (.iload_n 2, 1) := by decide +kernel
theorem dX5_mostLeftOver_11 : decode cX5_mostLeftOver 11 = .ok (.aload_n 0, 1) := by decide +kernel
theorem dX5_mostLeftOver_12 : decode cX5_mostLeftOver 12 = .ok (.getfield 29, 3) := by decide +kernel
theorem dX5_mostLeftOver_15 : decode cX5_mostLeftOver 15 = .ok (.iload_n 1, 1) := by decide +kernel
theorem dX5_mostLeftOver_16 : decode cX5_mostLeftOver 16 = .ok (.aaload, 1) := by decide +kernel
theorem dX5_mostLeftOver_17 : decode cX5_mostLeftOver 17 = .ok (.iload_n 3, 1) := by decide +kernel
theorem dX5_mostLeftOver_18 : decode cX5_mostLeftOver 18 = .ok (.iaload, 1) := by decide +kernel
theorem dX5_mostLeftOver_19 : decode cX5_mostLeftOver 19 = .ok (.invokestatic 116, 3) := by decide +kernel
theorem dX5_mostLeftOver_22 : decode cX5_mostLeftOver 22 = .ok (.istore_n 2, 1) := by decide +kernel
theorem dX5_mostLeftOver_23 : decode cX5_mostLeftOver 23 = .ok (.iinc 3 1, 3) := by decide +kernel
theorem dX5_mostLeftOver_26 : decode cX5_mostLeftOver 26 = .ok (.goto (-22), 3) := by decide +kernel
theorem dX5_mostLeftOver_29 : decode cX5_mostLeftOver 29 = .ok (.iload_n 2, 1) := by decide +kernel
theorem dX5_mostLeftOver_30 : decode cX5_mostLeftOver 30 = .ok (.ireturn, 1) := by decide +kernel
theorem dX6_init_0 : decode cX6_init 0 = .ok (.aload_n 0, 1) := by decide +kernel
theorem dX6_init_1 : decode cX6_init 1 = .ok (.invokespecial 3, 3) := by decide +kernel
theorem dX6_init_4 : decode cX6_init 4 = .ok (.aload_n 0, 1) := by decide +kernel
theorem dX6_init_5 : decode cX6_init 5 = .ok (.bipush 7, 2) := by decide +kernel
theorem dX6_init_7 : decode cX6_init 7 = .ok (.newarray .int, 2) := by decide +kernel
theorem dX6_init_9 : decode cX6_init 9 = .ok (.putfield 9, 3) := by decide +kernel
theorem dX6_init_12 : decode cX6_init 12 = .ok (.aload_n 0, 1) := by decide +kernel
theorem dX6_init_13 : decode cX6_init 13 = .ok (.bipush 7, 2) := by decide +kernel
theorem dX6_init_15 : decode cX6_init 15 = .ok (.newarray .int, 2) := by decide +kernel
theorem dX6_init_17 : decode cX6_init 17 = .ok (.putfield 15, 3) := by decide +kernel
theorem dX6_init_20 : decode cX6_init 20 = .ok (.aload_n 0, 1) := by decide +kernel
theorem dX6_init_21 : decode cX6_init 21 = .ok (.bipush 7, 2) := by decide +kernel
theorem dX6_init_23 : decode cX6_init 23 = .ok (.newarray .int, 2) := by decide +kernel
theorem dX6_init_25 : decode cX6_init 25 = .ok (.putfield 18, 3) := by decide +kernel
theorem dX6_init_28 : decode cX6_init 28 = .ok (.aload_n 0, 1) := by decide +kernel
theorem dX6_init_29 : decode cX6_init 29 = .ok (.bipush 7, 2) := by decide +kernel
theorem dX6_init_31 : decode cX6_init 31 = .ok (.newarray .int, 2) := by decide +kernel
theorem dX6_init_33 : decode cX6_init 33 = .ok (.putfield 21, 3) := by decide +kernel
theorem dX6_init_36 : decode cX6_init 36 = .ok (.aload_n 0, 1) := by decide +kernel
theorem dX6_init_37 : decode cX6_init 37 = .ok (.bipush 7, 2) := by decide +kernel
theorem dX6_init_39 : decode cX6_init 39 = .ok (.newarray .int, 2) := by decide +kernel
theorem dX6_init_41 : decode cX6_init 41 = .ok (.putfield 24, 3) := by decide +kernel
theorem dX6_init_44 : decode cX6_init 44 = .ok (.aload_n 0, 1) := by decide +kernel
theorem dX6_init_45 : decode cX6_init 45 = .ok (.iconst 4, 1) := by decide +kernel
theorem dX6_init_46 : decode cX6_init 46 = .ok (.newarray .int, 2) := by decide +kernel
theorem dX6_init_48 : decode cX6_init 48 = .ok (.putfield 27, 3) := by decide +kernel
theorem dX6_init_51 : decode cX6_init 51 = .ok (.aload_n 0, 1) := by decide +kernel
theorem dX6_init_52 : decode cX6_init 52 = .ok (.iconst 4, 1) := by decide +kernel
theorem dX6_init_53 : decode cX6_init 53 = .ok (.newarray .int, 2) := by decide +kernel
theorem dX6_init_55 : decode cX6_init 55 = .ok (.putfield 30, 3) := by decide +kernel
theorem dX6_init_58 : decode cX6_init 58 = .ok (.aload_n 0, 1) := by decide +kernel
theorem dX6_init_59 : decode cX6_init 59 = .ok (.iconst 4, 1) := by decide +kernel
theorem dX6_init_60 : decode cX6_init 60 = .ok (.newarray .int, 2) := by decide +kernel
theorem dX6_init_62 : decode cX6_init 62 = .ok (.putfield 33, 3) := by decide +kernel
theorem dX6_init_65 : decode cX6_init 65 = .ok (.aload_n 0, 1) := by decide +kernel
theorem dX6_init_66 : decode cX6_init 66 = .ok (.iconst 4, 1) := by decide +kernel
theorem dX6_init_67 : decode cX6_init 67 = .ok (.newarray .int, 2) := by decide +kernel
theorem dX6_init_69 : decode cX6_init 69 = .ok (.putfield 36, 3) := by decide +kernel
theorem dX6_init_72 : decode cX6_init 72 = .ok (.aload_n 0, 1) := by decide +kernel
theorem dX6_init_73 : decode cX6_init 73 = .ok (.bipush 7, 2) := by decide +kernel
theorem dX6_init_75 : decode cX6_init 75 = .ok (.invokevirtual 39, 3) := by decide +kernel
theorem dX6_init_78 : decode cX6_init 78 = .ok (.return_, 1) := by decide +kernel
theorem dX6_asAtFirst_0 : decode cX6_asAtFirst 0 = .ok (.aload_n 0, 1) := by decide +kernel
theorem dX6_asAtFirst_1 : decode cX6_asAtFirst 1 = .ok (.iload_n 1, 1) := by decide +kernel
theorem dX6_asAtFirst_2 : decode cX6_asAtFirst 2 = .ok (.putfield 43, 3) := by decide +kernel
theorem dX6_asAtFirst_5 : decode cX6_asAtFirst 5 = .ok (.aload_n 0, 1) := by decide +kernel
theorem dX6_asAtFirst_6 : decode cX6_asAtFirst 6 = .ok (.iconst 0, 1) := by decide +kernel
theorem dX6_asAtFirst_7 : decode cX6_asAtFirst 7 = .ok (.putfield 47, 3) := by decide +kernel
theorem dX6_asAtFirst_10 : decode cX6_asAtFirst 10 = .ok (.iconst 0, 1) := by decide +kernel
theorem dX6_asAtFirst_11 : decode cX6_asAtFirst 11 = .ok (.istore_n 2, 1) := by decide +kernel
theorem dX6_asAtFirst_12 : decode cX6_asAtFirst 12 = .ok (.iload_n 2, 1) := by decide +kernel
theorem dX6_asAtFirst_13 : decode cX6_asAtFirst 13 = .ok (.bipush 7, 2) := by decide +kernel
theorem dX6_asAtFirst_15 : decode cX6_asAtFirst 15 = .ok (.if_icmp .ge 16, 3) := by decide +kernel
theorem dX6_asAtFirst_18 : decode cX6_asAtFirst 18 = .ok (.aload_n 0, 1) := by decide +kernel
theorem dX6_asAtFirst_19 : decode cX6_asAtFirst 19 = .ok (.getfield 9, 3) := by decide +kernel
theorem dX6_asAtFirst_22 : decode cX6_asAtFirst 22 = .ok (.iload_n 2, 1) := by decide +kernel
theorem dX6_asAtFirst_23 : decode cX6_asAtFirst 23 = .ok (.iload_n 2, 1) := by decide +kernel
theorem dX6_asAtFirst_24 : decode cX6_asAtFirst 24 = .ok (.iastore, 1) := by decide +kernel
theorem dX6_asAtFirst_25 : decode cX6_asAtFirst 25 = .ok (.iinc 2 1, 3) := by decide +kernel
theorem dX6_asAtFirst_28 : decode cX6_asAtFirst 28 = .ok (.goto (-16), 3) := by decide +kernel
theorem dX6_asAtFirst_31 : decode cX6_asAtFirst 31 = .ok (.aload_n 0, 1) := by decide +kernel
theorem dX6_asAtFirst_32 : decode cX6_asAtFirst 32 = .ok (.getfield 15, 3) := by decide +kernel
theorem dX6_asAtFirst_35 : decode cX6_asAtFirst 35 = .ok (.bipush 9, 2) := by decide +kernel
theorem dX6_asAtFirst_37 : decode cX6_asAtFirst 37 = .ok (.invokestatic 50, 3) := by decide +kernel
theorem dX6_asAtFirst_40 : decode cX6_asAtFirst 40 = .ok (.aload_n 0, 1) := by decide +kernel
theorem dX6_asAtFirst_41 : decode cX6_asAtFirst 41 = .ok (.getfield 18, 3) := by decide +kernel
theorem dX6_asAtFirst_44 : decode cX6_asAtFirst 44 = .ok (.bipush 9, 2) := by decide +kernel
theorem dX6_asAtFirst_46 : decode cX6_asAtFirst 46 = .ok (.invokestatic 50, 3) := by decide +kernel
theorem dX6_asAtFirst_49 : decode cX6_asAtFirst 49 = .ok (.aload_n 0, 1) := by decide +kernel
theorem dX6_asAtFirst_50 : decode cX6_asAtFirst 50 = .ok (.getfield 21, 3) := by decide +kernel
theorem dX6_asAtFirst_53 : decode cX6_asAtFirst 53 = .ok (.iconst 0, 1) := by decide +kernel
theorem dX6_asAtFirst_54 : decode cX6_asAtFirst 54 = .ok (.invokestatic 50, 3) := by decide +kernel
theorem dX6_asAtFirst_57 : decode cX6_asAtFirst 57 = .ok (.aload_n 0, 1) := by decide +kernel
theorem dX6_asAtFirst_58 : decode cX6_asAtFirst 58 = .ok (.getfield 24, 3) := by decide +kernel
theorem dX6_asAtFirst_61 : decode cX6_asAtFirst 61 = .ok (.bipush (-6), 2) := by decide +kernel
theorem dX6_asAtFirst_63 : decode cX6_asAtFirst 63 = .ok (.invokestatic 50, 3) := by decide +kernel
theorem dX6_asAtFirst_66 : decode cX6_asAtFirst 66 = .ok (.return_, 1) := by decide +kernel
theorem dX6_hasThing_0 : decode cX6_hasThing 0 = .ok (.iload_n 1, 1) := by decide +kernel
theorem dX6_hasThing_1 : decode cX6_hasThing 1 = .ok (.ifCond .lt 15, 3) := by decide +kernel
theorem dX6_hasThing_4 : decode cX6_hasThing 4 = .ok (.iload_n 1, 1) := by decide +kernel
theorem dX6_hasThing_5 : decode cX6_hasThing 5 = .ok (.aload_n 0, 1) := by decide +kernel
theorem dX6_hasThing_6 : decode cX6_hasThing 6 = .ok (.getfield 43, 3) := by decide +kernel
theorem dX6_hasThing_9 : decode cX6_hasThing 9 = .ok (.if_icmp .ge 7, 3) := by decide +kernel
theorem dX6_hasThing_12 : decode cX6_hasThing 12 = .ok (.iconst 1, 1) := by decide +kernel
theorem dX6_hasThing_13 : decode cX6_hasThing 13 = .ok (.goto 4, 3) := by decide +kernel
theorem dX6_hasThing_16 : decode cX6_hasThing 16 = .ok (.iconst 0, 1) := by decide +kernel
theorem dX6_hasThing_17 : decode cX6_hasThing 17 = .ok (.ireturn, 1) := by decide +kernel
theorem dX6_hasGuest_0 : decode cX6_hasGuest 0 = .ok (.iload_n 1, 1) := by decide +kernel
theorem dX6_hasGuest_1 : decode cX6_hasGuest 1 = .ok (.ifCond .lt 24, 3) := by decide +kernel
theorem dX6_hasGuest_4 : decode cX6_hasGuest 4 = .ok (.iload_n 1, 1) := by decide +kernel
theorem dX6_hasGuest_5 : decode cX6_hasGuest 5 = .ok (.iconst 4, 1) := by decide +kernel
theorem dX6_hasGuest_6 : decode cX6_hasGuest 6 = .ok (.if_icmp .ge 19, 3) := by decide +kernel
theorem dX6_hasGuest_9 : decode cX6_hasGuest 9 = .ok (.aload_n 0, 1) := by decide +kernel
theorem dX6_hasGuest_10 : decode cX6_hasGuest 10 = .ok (.getfield 56, 3) := by decide +kernel
theorem dX6_hasGuest_13 : decode cX6_hasGuest 13 = .ok (.iload_n 1, 1) := by decide +kernel
theorem dX6_hasGuest_14 : decode cX6_hasGuest 14 = .ok (.ishr, 1) := by decide +kernel
theorem dX6_hasGuest_15 : decode cX6_hasGuest 15 = .ok (.iconst 1, 1) := by decide +kernel
theorem dX6_hasGuest_16 : decode cX6_hasGuest 16 = .ok (.iand, 1) := by decide +kernel
theorem dX6_hasGuest_17 : decode cX6_hasGuest 17 = .ok (.iconst 1, 1) := by decide +kernel
theorem dX6_hasGuest_18 : decode cX6_hasGuest 18 = .ok (.if_icmp .ne 7, 3) := by decide +kernel
theorem dX6_hasGuest_21 : decode cX6_hasGuest 21 = .ok (.iconst 1, 1) := by decide +kernel
theorem dX6_hasGuest_22 : decode cX6_hasGuest 22 = .ok (.goto 4, 3) := by decide +kernel
theorem dX6_hasGuest_25 : decode cX6_hasGuest 25 = .ok (.iconst 0, 1) := by decide +kernel
theorem dX6_hasGuest_26 : decode cX6_hasGuest 26 = .ok (.ireturn, 1) := by decide +kernel
theorem dX6_ofThing_0 : decode cX6_ofThing 0 = .ok (.iload_n 2, 1) := by decide +kernel
theorem dX6_ofThing_1 : decode cX6_ofThing 1 = .ok (.tableswitch 72 0 4 #[35, 42, 49, 58, 65], 35) := by decide +kernel
theorem dX6_ofThing_36 : decode cX6_ofThing 36 = .ok (.aload_n 0, 1) := by decide +kernel
theorem dX6_ofThing_37 : decode cX6_ofThing 37 = .ok (.getfield 9, 3) := by decide +kernel
theorem dX6_ofThing_40 : decode cX6_ofThing 40 = .ok (.iload_n 1, 1) := by decide +kernel
theorem dX6_ofThing_41 : decode cX6_ofThing 41 = .ok (.iaload, 1) := by decide +kernel
theorem dX6_ofThing_42 : decode cX6_ofThing 42 = .ok (.ireturn, 1) := by decide +kernel
theorem dX6_ofThing_43 : decode cX6_ofThing 43 = .ok (.aload_n 0, 1) := by decide +kernel
theorem dX6_ofThing_44 : decode cX6_ofThing 44 = .ok (.getfield 15, 3) := by decide +kernel
theorem dX6_ofThing_47 : decode cX6_ofThing 47 = .ok (.iload_n 1, 1) := by decide +kernel
theorem dX6_ofThing_48 : decode cX6_ofThing 48 = .ok (.iaload, 1) := by decide +kernel
theorem dX6_ofThing_49 : decode cX6_ofThing 49 = .ok (.ireturn, 1) := by decide +kernel
theorem dX6_ofThing_50 : decode cX6_ofThing 50 = .ok (.aload_n 0, 1) := by decide +kernel
theorem dX6_ofThing_51 : decode cX6_ofThing 51 = .ok (.getfield 47, 3) := by decide +kernel
theorem dX6_ofThing_54 : decode cX6_ofThing 54 = .ok (.iload_n 1, 1) := by decide +kernel
theorem dX6_ofThing_55 : decode cX6_ofThing 55 = .ok (.ishr, 1) := by decide +kernel
theorem dX6_ofThing_56 : decode cX6_ofThing 56 = .ok (.iconst 1, 1) := by decide +kernel
theorem dX6_ofThing_57 : decode cX6_ofThing 57 = .ok (.iand, 1) := by decide +kernel
theorem dX6_ofThing_58 : decode cX6_ofThing 58 = .ok (.ireturn, 1) := by decide +kernel
theorem dX6_ofThing_59 : decode cX6_ofThing 59 = .ok (.aload_n 0, 1) := by decide +kernel
theorem dX6_ofThing_60 : decode cX6_ofThing 60 = .ok (.getfield 18, 3) := by decide +kernel
theorem dX6_ofThing_63 : decode cX6_ofThing 63 = .ok (.iload_n 1, 1) := by decide +kernel
theorem dX6_ofThing_64 : decode cX6_ofThing 64 = .ok (.iaload, 1) := by decide +kernel
theorem dX6_ofThing_65 : decode cX6_ofThing 65 = .ok (.ireturn, 1) := by decide +kernel
theorem dX6_ofThing_66 : decode cX6_ofThing 66 = .ok (.aload_n 0, 1) := by decide +kernel
theorem dX6_ofThing_67 : decode cX6_ofThing 67 = .ok (.getfield 21, 3) := by decide +kernel
theorem dX6_ofThing_70 : decode cX6_ofThing 70 = .ok (.iload_n 1, 1) := by decide +kernel
theorem dX6_ofThing_71 : decode cX6_ofThing 71 = .ok (.iaload, 1) := by decide +kernel
theorem dX6_ofThing_72 : decode cX6_ofThing 72 = .ok (.ireturn, 1) := by decide +kernel
theorem dX6_ofThing_73 : decode cX6_ofThing 73 = .ok (.aload_n 0, 1) := by decide +kernel
theorem dX6_ofThing_74 : decode cX6_ofThing 74 = .ok (.getfield 24, 3) := by decide +kernel
theorem dX6_ofThing_77 : decode cX6_ofThing 77 = .ok (.iload_n 1, 1) := by decide +kernel
theorem dX6_ofThing_78 : decode cX6_ofThing 78 = .ok (.iaload, 1) := by decide +kernel
theorem dX6_ofThing_79 : decode cX6_ofThing 79 = .ok (.ireturn, 1) := by decide +kernel
theorem dX6_ofGuest_0 : decode cX6_ofGuest 0 = .ok (.iload_n 2, 1) := by decide +kernel
theorem dX6_ofGuest_1 : decode cX6_ofGuest 1 = .ok (.tableswitch 48 0 2 #[27, 34, 41], 27) := by decide +kernel
theorem dX6_ofGuest_28 : decode cX6_ofGuest 28 = .ok (.aload_n 0, 1) := by decide +kernel
theorem dX6_ofGuest_29 : decode cX6_ofGuest 29 = .ok (.getfield 27, 3) := by decide +kernel
theorem dX6_ofGuest_32 : decode cX6_ofGuest 32 = .ok (.iload_n 1, 1) := by decide +kernel
theorem dX6_ofGuest_33 : decode cX6_ofGuest 33 = .ok (.iaload, 1) := by decide +kernel
theorem dX6_ofGuest_34 : decode cX6_ofGuest 34 = .ok (.ireturn, 1) := by decide +kernel
theorem dX6_ofGuest_35 : decode cX6_ofGuest 35 = .ok (.aload_n 0, 1) := by decide +kernel
theorem dX6_ofGuest_36 : decode cX6_ofGuest 36 = .ok (.getfield 30, 3) := by decide +kernel
theorem dX6_ofGuest_39 : decode cX6_ofGuest 39 = .ok (.iload_n 1, 1) := by decide +kernel
theorem dX6_ofGuest_40 : decode cX6_ofGuest 40 = .ok (.iaload, 1) := by decide +kernel
theorem dX6_ofGuest_41 : decode cX6_ofGuest 41 = .ok (.ireturn, 1) := by decide +kernel
theorem dX6_ofGuest_42 : decode cX6_ofGuest 42 = .ok (.aload_n 0, 1) := by decide +kernel
theorem dX6_ofGuest_43 : decode cX6_ofGuest 43 = .ok (.getfield 33, 3) := by decide +kernel
theorem dX6_ofGuest_46 : decode cX6_ofGuest 46 = .ok (.iload_n 1, 1) := by decide +kernel
theorem dX6_ofGuest_47 : decode cX6_ofGuest 47 = .ok (.iaload, 1) := by decide +kernel
theorem dX6_ofGuest_48 : decode cX6_ofGuest 48 = .ok (.ireturn, 1) := by decide +kernel
theorem dX6_ofGuest_49 : decode cX6_ofGuest 49 = .ok (.aload_n 0, 1) := by decide +kernel
theorem dX6_ofGuest_50 : decode cX6_ofGuest 50 = .ok (.getfield 36, 3) := by decide +kernel
theorem dX6_ofGuest_53 : decode cX6_ofGuest 53 = .ok (.iload_n 1, 1) := by decide +kernel
theorem dX6_ofGuest_54 : decode cX6_ofGuest 54 = .ok (.iaload, 1) := by decide +kernel
theorem dX6_ofGuest_55 : decode cX6_ofGuest 55 = .ok (.ireturn, 1) := by decide +kernel
theorem dX6_change_0 : decode cX6_change 0 = .ok (.iload_n 2, 1) := by decide +kernel
theorem dX6_change_1 : decode cX6_change 1 = .ok (.tableswitch 82 0 2 #[27, 37, 61], 27) := by decide +kernel
theorem dX6_change_28 : decode cX6_change 28 = .ok (.aload_n 0, 1) := by decide +kernel
theorem dX6_change_29 : decode cX6_change 29 = .ok (.getfield 9, 3) := by decide +kernel
theorem dX6_change_32 : decode cX6_change 32 = .ok (.iload_n 1, 1) := by decide +kernel
theorem dX6_change_33 : decode cX6_change 33 = .ok (.iload_n 3, 1) := by decide +kernel
theorem dX6_change_34 : decode cX6_change 34 = .ok (.iastore, 1) := by decide +kernel
theorem dX6_change_35 : decode cX6_change 35 = .ok (.goto 55, 3) := by decide +kernel
theorem dX6_change_38 : decode cX6_change 38 = .ok (.aload_n 0, 1) := by decide +kernel
theorem dX6_change_39 : decode cX6_change 39 = .ok (.getfield 15, 3) := by decide +kernel
theorem dX6_change_42 : decode cX6_change 42 = .ok (.iload_n 1, 1) := by decide +kernel
theorem dX6_change_43 : decode cX6_change 43 = .ok (.iload_n 3, 1) := by decide +kernel
theorem dX6_change_44 : decode cX6_change 44 = .ok (.iastore, 1) := by decide +kernel
theorem dX6_change_45 : decode cX6_change 45 = .ok (.aload_n 0, 1) := by decide +kernel
theorem dX6_change_46 : decode cX6_change 46 = .ok (.getfield 18, 3) := by decide +kernel
theorem dX6_change_49 : decode cX6_change 49 = .ok (.iload_n 1, 1) := by decide +kernel
theorem dX6_change_50 : decode cX6_change 50 = .ok (.iload_n 3, 1) := by decide +kernel
theorem dX6_change_51 : decode cX6_change 51 = .ok (.iastore, 1) := by decide +kernel
theorem dX6_change_52 : decode cX6_change 52 = .ok (.aload_n 0, 1) := by decide +kernel
theorem dX6_change_53 : decode cX6_change 53 = .ok (.getfield 21, 3) := by decide +kernel
theorem dX6_change_56 : decode cX6_change 56 = .ok (.iload_n 1, 1) := by decide +kernel
theorem dX6_change_57 : decode cX6_change 57 = .ok (.iconst 0, 1) := by decide +kernel
theorem dX6_change_58 : decode cX6_change 58 = .ok (.iastore, 1) := by decide +kernel
theorem dX6_change_59 : decode cX6_change 59 = .ok (.goto 31, 3) := by decide +kernel
theorem dX6_change_62 : decode cX6_change 62 = .ok (.aload_n 0, 1) := by decide +kernel
theorem dX6_change_63 : decode cX6_change 63 = .ok (.aload_n 0, 1) := by decide +kernel
theorem dX6_change_64 : decode cX6_change 64 = .ok (.getfield 47, 3) := by decide +kernel
theorem dX6_change_67 : decode cX6_change 67 = .ok (.iconst 1, 1) := by decide +kernel
theorem dX6_change_68 : decode cX6_change 68 = .ok (.iload_n 1, 1) := by decide +kernel
theorem dX6_change_69 : decode cX6_change 69 = .ok (.ishl, 1) := by decide +kernel
theorem dX6_change_70 : decode cX6_change 70 = .ok (.iconst (-1), 1) := by decide +kernel
theorem dX6_change_71 : decode cX6_change 71 = .ok (.ixor, 1) := by decide +kernel
theorem dX6_change_72 : decode cX6_change 72 = .ok (.iand, 1) := by decide +kernel
theorem dX6_change_73 : decode cX6_change 73 = .ok (.iload_n 3, 1) := by decide +kernel
theorem dX6_change_74 : decode cX6_change 74 = .ok (.iload_n 1, 1) := by decide +kernel
theorem dX6_change_75 : decode cX6_change 75 = .ok (.ishl, 1) := by decide +kernel
theorem dX6_change_76 : decode cX6_change 76 = .ok (.ior, 1) := by decide +kernel
theorem dX6_change_77 : decode cX6_change 77 = .ok (.putfield 47, 3) := by decide +kernel
theorem dX6_change_80 : decode cX6_change 80 = .ok (.goto 10, 3) := by decide +kernel
theorem dX6_change_83 : decode cX6_change 83 = .ok (.aload_n 0, 1) := by decide +kernel
theorem dX6_change_84 : decode cX6_change 84 = .ok (.getfield 18, 3) := by decide +kernel
theorem dX6_change_87 : decode cX6_change 87 = .ok (.iload_n 1, 1) := by decide +kernel
theorem dX6_change_88 : decode cX6_change 88 = .ok (.iload_n 3, 1) := by decide +kernel
theorem dX6_change_89 : decode cX6_change 89 = .ok (.iastore, 1) := by decide +kernel
theorem dX6_change_90 : decode cX6_change 90 = .ok (.return_, 1) := by decide +kernel
theorem dX6_welcome_0 : decode cX6_welcome 0 = .ok (.aload_n 0, 1) := by decide +kernel
theorem dX6_welcome_1 : decode cX6_welcome 1 = .ok (.dup, 1) := by decide +kernel
theorem dX6_welcome_2 : decode cX6_welcome 2 = .ok (.getfield 56, 3) := by decide +kernel
theorem dX6_welcome_5 : decode cX6_welcome 5 = .ok (.iconst 1, 1) := by decide +kernel
theorem dX6_welcome_6 : decode cX6_welcome 6 = .ok (.iload_n 1, 1) := by decide +kernel
theorem dX6_welcome_7 : decode cX6_welcome 7 = .ok (.ishl, 1) := by decide +kernel
theorem dX6_welcome_8 : decode cX6_welcome 8 = .ok (.ior, 1) := by decide +kernel
theorem dX6_welcome_9 : decode cX6_welcome 9 = .ok (.putfield 56, 3) := by decide +kernel
theorem dX6_welcome_12 : decode cX6_welcome 12 = .ok (.aload_n 0, 1) := by decide +kernel
theorem dX6_welcome_13 : decode cX6_welcome 13 = .ok (.getfield 27, 3) := by decide +kernel
theorem dX6_welcome_16 : decode cX6_welcome 16 = .ok (.iload_n 1, 1) := by decide +kernel
theorem dX6_welcome_17 : decode cX6_welcome 17 = .ok (.iload_n 2, 1) := by decide +kernel
theorem dX6_welcome_18 : decode cX6_welcome 18 = .ok (.iastore, 1) := by decide +kernel
theorem dX6_welcome_19 : decode cX6_welcome 19 = .ok (.aload_n 0, 1) := by decide +kernel
theorem dX6_welcome_20 : decode cX6_welcome 20 = .ok (.getfield 30, 3) := by decide +kernel
theorem dX6_welcome_23 : decode cX6_welcome 23 = .ok (.iload_n 1, 1) := by decide +kernel
theorem dX6_welcome_24 : decode cX6_welcome 24 = .ok (.iload_n 3, 1) := by decide +kernel
theorem dX6_welcome_25 : decode cX6_welcome 25 = .ok (.iastore, 1) := by decide +kernel
theorem dX6_welcome_26 : decode cX6_welcome 26 = .ok (.aload_n 0, 1) := by decide +kernel
theorem dX6_welcome_27 : decode cX6_welcome 27 = .ok (.getfield 33, 3) := by decide +kernel
theorem dX6_welcome_30 : decode cX6_welcome 30 = .ok (.iload_n 1, 1) := by decide +kernel
theorem dX6_welcome_31 : decode cX6_welcome 31 = .ok (.iload 4, 2) := by decide +kernel
theorem dX6_welcome_33 : decode cX6_welcome 33 = .ok (.iastore, 1) := by decide +kernel
theorem dX6_welcome_34 : decode cX6_welcome 34 = .ok (.aload_n 0, 1) := by decide +kernel
theorem dX6_welcome_35 : decode cX6_welcome 35 = .ok (.getfield 36, 3) := by decide +kernel
theorem dX6_welcome_38 : decode cX6_welcome 38 = .ok (.iload_n 1, 1) := by decide +kernel
theorem dX6_welcome_39 : decode cX6_welcome 39 = .ok (.iload 5, 2) := by decide +kernel
theorem dX6_welcome_41 : decode cX6_welcome 41 = .ok (.iastore, 1) := by decide +kernel
theorem dX6_welcome_42 : decode cX6_welcome 42 = .ok (.return_, 1) := by decide +kernel
theorem dX6_sightBits_0 : decode cX6_sightBits 0 = .ok (.iconst 0, 1) := by decide +kernel
theorem dX6_sightBits_1 : decode cX6_sightBits 1 = .ok (.istore_n 1, 1) := by decide +kernel
theorem dX6_sightBits_2 : decode cX6_sightBits 2 = .ok (.iconst 0, 1) := by decide +kernel
theorem dX6_sightBits_3 : decode cX6_sightBits 3 = .ok (.istore_n 2, 1) := by decide +kernel
theorem dX6_sightBits_4 : decode cX6_sightBits 4 = .ok (.iload_n 2, 1) := by decide +kernel
theorem dX6_sightBits_5 : decode cX6_sightBits 5 = .ok (.bipush 7, 2) := by decide +kernel
theorem dX6_sightBits_7 : decode cX6_sightBits 7 = .ok (.if_icmp .ge 26, 3) := by decide +kernel
theorem dX6_sightBits_10 : decode cX6_sightBits 10 = .ok (.aload_n 0, 1) := by decide +kernel
theorem dX6_sightBits_11 : decode cX6_sightBits 11 = .ok (.getfield 24, 3) := by decide +kernel
theorem dX6_sightBits_14 : decode cX6_sightBits 14 = .ok (.iload_n 2, 1) := by decide +kernel
theorem dX6_sightBits_15 : decode cX6_sightBits 15 = .ok (.iaload, 1) := by decide +kernel
theorem dX6_sightBits_16 : decode cX6_sightBits 16 = .ok (.bipush (-6), 2) := by decide +kernel
theorem dX6_sightBits_18 : decode cX6_sightBits 18 = .ok (.if_icmp .eq 9, 3) := by decide +kernel
theorem dX6_sightBits_21 : decode cX6_sightBits 21 = .ok (.iload_n 1, 1) := by decide +kernel
theorem dX6_sightBits_22 : decode cX6_sightBits 22 = .ok (.iconst 1, 1) := by decide +kernel
theorem dX6_sightBits_23 : decode cX6_sightBits 23 = .ok (.iload_n 2, 1) := by decide +kernel
theorem dX6_sightBits_24 : decode cX6_sightBits 24 = .ok (.ishl, 1) := by decide +kernel
theorem dX6_sightBits_25 : decode cX6_sightBits 25 = .ok (.ior, 1) := by decide +kernel
theorem dX6_sightBits_26 : decode cX6_sightBits 26 = .ok (.istore_n 1, 1) := by decide +kernel
theorem dX6_sightBits_27 : decode cX6_sightBits 27 = .ok (.iinc 2 1, 3) := by decide +kernel
theorem dX6_sightBits_30 : decode cX6_sightBits 30 = .ok (.goto (-26), 3) := by decide +kernel
theorem dX6_sightBits_33 : decode cX6_sightBits 33 = .ok (.iload_n 1, 1) := by decide +kernel
theorem dX6_sightBits_34 : decode cX6_sightBits 34 = .ok (.ireturn, 1) := by decide +kernel
theorem dX6_copyFrom_0 : decode cX6_copyFrom 0 = .ok (.aload_n 0, 1) := by decide +kernel
theorem dX6_copyFrom_1 : decode cX6_copyFrom 1 = .ok (.aload_n 1, 1) := by decide +kernel
theorem dX6_copyFrom_2 : decode cX6_copyFrom 2 = .ok (.getfield 43, 3) := by decide +kernel
theorem dX6_copyFrom_5 : decode cX6_copyFrom 5 = .ok (.putfield 43, 3) := by decide +kernel
theorem dX6_copyFrom_8 : decode cX6_copyFrom 8 = .ok (.aload_n 0, 1) := by decide +kernel
theorem dX6_copyFrom_9 : decode cX6_copyFrom 9 = .ok (.aload_n 1, 1) := by decide +kernel
theorem dX6_copyFrom_10 : decode cX6_copyFrom 10 = .ok (.getfield 47, 3) := by decide +kernel
theorem dX6_copyFrom_13 : decode cX6_copyFrom 13 = .ok (.putfield 47, 3) := by decide +kernel
theorem dX6_copyFrom_16 : decode cX6_copyFrom 16 = .ok (.aload_n 0, 1) := by decide +kernel
theorem dX6_copyFrom_17 : decode cX6_copyFrom 17 = .ok (.aload_n 1, 1) := by decide +kernel
theorem dX6_copyFrom_18 : decode cX6_copyFrom 18 = .ok (.getfield 56, 3) := by decide +kernel
theorem dX6_copyFrom_21 : decode cX6_copyFrom 21 = .ok (.putfield 56, 3) := by decide +kernel
theorem dX6_copyFrom_24 : decode cX6_copyFrom 24 = .ok (.aload_n 1, 1) := by decide +kernel
theorem dX6_copyFrom_25 : decode cX6_copyFrom 25 = .ok (.getfield 9, 3) := by decide +kernel
theorem dX6_copyFrom_28 : decode cX6_copyFrom 28 = .ok (.iconst 0, 1) := by decide +kernel
theorem dX6_copyFrom_29 : decode cX6_copyFrom 29 = .ok (.aload_n 0, 1) := by decide +kernel
theorem dX6_copyFrom_30 : decode cX6_copyFrom 30 = .ok (.getfield 9, 3) := by decide +kernel
theorem dX6_copyFrom_33 : decode cX6_copyFrom 33 = .ok (.iconst 0, 1) := by decide +kernel
theorem dX6_copyFrom_34 : decode cX6_copyFrom 34 = .ok (.bipush 7, 2) := by decide +kernel
theorem dX6_copyFrom_36 : decode cX6_copyFrom 36 = .ok (.invokestatic 59, 3) := by decide +kernel
theorem dX6_copyFrom_39 : decode cX6_copyFrom 39 = .ok (.aload_n 1, 1) := by decide +kernel
theorem dX6_copyFrom_40 : decode cX6_copyFrom 40 = .ok (.getfield 15, 3) := by decide +kernel
theorem dX6_copyFrom_43 : decode cX6_copyFrom 43 = .ok (.iconst 0, 1) := by decide +kernel
theorem dX6_copyFrom_44 : decode cX6_copyFrom 44 = .ok (.aload_n 0, 1) := by decide +kernel
theorem dX6_copyFrom_45 : decode cX6_copyFrom 45 = .ok (.getfield 15, 3) := by decide +kernel
theorem dX6_copyFrom_48 : decode cX6_copyFrom 48 = .ok (.iconst 0, 1) := by decide +kernel
theorem dX6_copyFrom_49 : decode cX6_copyFrom 49 = .ok (.bipush 7, 2) := by decide +kernel
theorem dX6_copyFrom_51 : decode cX6_copyFrom 51 = .ok (.invokestatic 59, 3) := by decide +kernel
theorem dX6_copyFrom_54 : decode cX6_copyFrom 54 = .ok (.aload_n 1, 1) := by decide +kernel
theorem dX6_copyFrom_55 : decode cX6_copyFrom 55 = .ok (.getfield 18, 3) := by decide +kernel
theorem dX6_copyFrom_58 : decode cX6_copyFrom 58 = .ok (.iconst 0, 1) := by decide +kernel
theorem dX6_copyFrom_59 : decode cX6_copyFrom 59 = .ok (.aload_n 0, 1) := by decide +kernel
theorem dX6_copyFrom_60 : decode cX6_copyFrom 60 = .ok (.getfield 18, 3) := by decide +kernel
theorem dX6_copyFrom_63 : decode cX6_copyFrom 63 = .ok (.iconst 0, 1) := by decide +kernel
theorem dX6_copyFrom_64 : decode cX6_copyFrom 64 = .ok (.bipush 7, 2) := by decide +kernel
theorem dX6_copyFrom_66 : decode cX6_copyFrom 66 = .ok (.invokestatic 59, 3) := by decide +kernel
theorem dX6_copyFrom_69 : decode cX6_copyFrom 69 = .ok (.aload_n 1, 1) := by decide +kernel
theorem dX6_copyFrom_70 : decode cX6_copyFrom 70 = .ok (.getfield 21, 3) := by decide +kernel
theorem dX6_copyFrom_73 : decode cX6_copyFrom 73 = .ok (.iconst 0, 1) := by decide +kernel
theorem dX6_copyFrom_74 : decode cX6_copyFrom 74 = .ok (.aload_n 0, 1) := by decide +kernel
theorem dX6_copyFrom_75 : decode cX6_copyFrom 75 = .ok (.getfield 21, 3) := by decide +kernel
theorem dX6_copyFrom_78 : decode cX6_copyFrom 78 = .ok (.iconst 0, 1) := by decide +kernel
theorem dX6_copyFrom_79 : decode cX6_copyFrom 79 = .ok (.bipush 7, 2) := by decide +kernel
theorem dX6_copyFrom_81 : decode cX6_copyFrom 81 = .ok (.invokestatic 59, 3) := by decide +kernel
theorem dX6_copyFrom_84 : decode cX6_copyFrom 84 = .ok (.aload_n 1, 1) := by decide +kernel
theorem dX6_copyFrom_85 : decode cX6_copyFrom 85 = .ok (.getfield 24, 3) := by decide +kernel
theorem dX6_copyFrom_88 : decode cX6_copyFrom 88 = .ok (.iconst 0, 1) := by decide +kernel
theorem dX6_copyFrom_89 : decode cX6_copyFrom 89 = .ok (.aload_n 0, 1) := by decide +kernel
theorem dX6_copyFrom_90 : decode cX6_copyFrom 90 = .ok (.getfield 24, 3) := by decide +kernel
theorem dX6_copyFrom_93 : decode cX6_copyFrom 93 = .ok (.iconst 0, 1) := by decide +kernel
theorem dX6_copyFrom_94 : decode cX6_copyFrom 94 = .ok (.bipush 7, 2) := by decide +kernel
theorem dX6_copyFrom_96 : decode cX6_copyFrom 96 = .ok (.invokestatic 59, 3) := by decide +kernel
theorem dX6_copyFrom_99 : decode cX6_copyFrom 99 = .ok (.aload_n 1, 1) := by decide +kernel
theorem dX6_copyFrom_100 : decode cX6_copyFrom 100 = .ok (.getfield 27, 3) := by decide +kernel
theorem dX6_copyFrom_103 : decode cX6_copyFrom 103 = .ok (.iconst 0, 1) := by decide +kernel
theorem dX6_copyFrom_104 : decode cX6_copyFrom 104 = .ok (.aload_n 0, 1) := by decide +kernel
theorem dX6_copyFrom_105 : decode cX6_copyFrom 105 = .ok (.getfield 27, 3) := by decide +kernel
theorem dX6_copyFrom_108 : decode cX6_copyFrom 108 = .ok (.iconst 0, 1) := by decide +kernel
theorem dX6_copyFrom_109 : decode cX6_copyFrom 109 = .ok (.iconst 4, 1) := by decide +kernel
theorem dX6_copyFrom_110 : decode cX6_copyFrom 110 = .ok (.invokestatic 59, 3) := by decide +kernel
theorem dX6_copyFrom_113 : decode cX6_copyFrom 113 = .ok (.aload_n 1, 1) := by decide +kernel
theorem dX6_copyFrom_114 : decode cX6_copyFrom 114 = .ok (.getfield 30, 3) := by decide +kernel
theorem dX6_copyFrom_117 : decode cX6_copyFrom 117 = .ok (.iconst 0, 1) := by decide +kernel
theorem dX6_copyFrom_118 : decode cX6_copyFrom 118 = .ok (.aload_n 0, 1) := by decide +kernel
theorem dX6_copyFrom_119 : decode cX6_copyFrom 119 = .ok (.getfield 30, 3) := by decide +kernel
theorem dX6_copyFrom_122 : decode cX6_copyFrom 122 = .ok (.iconst 0, 1) := by decide +kernel
theorem dX6_copyFrom_123 : decode cX6_copyFrom 123 = .ok (.iconst 4, 1) := by decide +kernel
theorem dX6_copyFrom_124 : decode cX6_copyFrom 124 = .ok (.invokestatic 59, 3) := by decide +kernel
theorem dX6_copyFrom_127 : decode cX6_copyFrom 127 = .ok (.aload_n 1, 1) := by decide +kernel
theorem dX6_copyFrom_128 : decode cX6_copyFrom 128 = .ok (.getfield 33, 3) := by decide +kernel
theorem dX6_copyFrom_131 : decode cX6_copyFrom 131 = .ok (.iconst 0, 1) := by decide +kernel
theorem dX6_copyFrom_132 : decode cX6_copyFrom 132 = .ok (.aload_n 0, 1) := by decide +kernel
theorem dX6_copyFrom_133 : decode cX6_copyFrom 133 = .ok (.getfield 33, 3) := by decide +kernel
theorem dX6_copyFrom_136 : decode cX6_copyFrom 136 = .ok (.iconst 0, 1) := by decide +kernel
theorem dX6_copyFrom_137 : decode cX6_copyFrom 137 = .ok (.iconst 4, 1) := by decide +kernel
theorem dX6_copyFrom_138 : decode cX6_copyFrom 138 = .ok (.invokestatic 59, 3) := by decide +kernel
theorem dX6_copyFrom_141 : decode cX6_copyFrom 141 = .ok (.aload_n 1, 1) := by decide +kernel
theorem dX6_copyFrom_142 : decode cX6_copyFrom 142 = .ok (.getfield 36, 3) := by decide +kernel
theorem dX6_copyFrom_145 : decode cX6_copyFrom 145 = .ok (.iconst 0, 1) := by decide +kernel
theorem dX6_copyFrom_146 : decode cX6_copyFrom 146 = .ok (.aload_n 0, 1) := by decide +kernel
theorem dX6_copyFrom_147 : decode cX6_copyFrom 147 = .ok (.getfield 36, 3) := by decide +kernel
theorem dX6_copyFrom_150 : decode cX6_copyFrom 150 = .ok (.iconst 0, 1) := by decide +kernel
theorem dX6_copyFrom_151 : decode cX6_copyFrom 151 = .ok (.iconst 4, 1) := by decide +kernel
theorem dX6_copyFrom_152 : decode cX6_copyFrom 152 = .ok (.invokestatic 59, 3) := by decide +kernel
theorem dX6_copyFrom_155 : decode cX6_copyFrom 155 = .ok (.return_, 1) := by decide +kernel
theorem dX7_init_0 : decode cX7_init 0 = .ok (.aload_n 0, 1) := by decide +kernel
theorem dX7_init_1 : decode cX7_init 1 = .ok (.invokespecial 3, 3) := by decide +kernel
theorem dX7_init_4 : decode cX7_init 4 = .ok (.aload_n 0, 1) := by decide +kernel
theorem dX7_init_5 : decode cX7_init 5 = .ok (.iconst 4, 1) := by decide +kernel
theorem dX7_init_6 : decode cX7_init 6 = .ok (.newarray .int, 2) := by decide +kernel
theorem dX7_init_8 : decode cX7_init 8 = .ok (.putfield 9, 3) := by decide +kernel
theorem dX7_init_11 : decode cX7_init 11 = .ok (.aload_n 0, 1) := by decide +kernel
theorem dX7_init_12 : decode cX7_init 12 = .ok (.aload_n 1, 1) := by decide +kernel
theorem dX7_init_13 : decode cX7_init 13 = .ok (.putfield 15, 3) := by decide +kernel
theorem dX7_init_16 : decode cX7_init 16 = .ok (.aload_n 0, 1) := by decide +kernel
theorem dX7_init_17 : decode cX7_init 17 = .ok (.aload_n 2, 1) := by decide +kernel
theorem dX7_init_18 : decode cX7_init 18 = .ok (.putfield 19, 3) := by decide +kernel
theorem dX7_init_21 : decode cX7_init 21 = .ok (.return_, 1) := by decide +kernel
theorem dX7_areAlike_0 : decode cX7_areAlike 0 = .ok (.aload_n 0, 1) := by decide +kernel
theorem dX7_areAlike_1 : decode cX7_areAlike 1 = .ok (.getfield 15, 3) := by decide +kernel
theorem dX7_areAlike_4 : decode cX7_areAlike 4 = .ok (.iload_n 1, 1) := by decide +kernel
theorem dX7_areAlike_5 : decode cX7_areAlike 5 = .ok (.invokevirtual 23, 3) := by decide +kernel
theorem dX7_areAlike_8 : decode cX7_areAlike 8 = .ok (.ifCond .eq 33, 3) := by decide +kernel
theorem dX7_areAlike_11 : decode cX7_areAlike 11 = .ok (.aload_n 0, 1) := by decide +kernel
theorem dX7_areAlike_12 : decode cX7_areAlike 12 = .ok (.getfield 15, 3) := by decide +kernel
theorem dX7_areAlike_15 : decode cX7_areAlike 15 = .ok (.iload_n 2, 1) := by decide +kernel
theorem dX7_areAlike_16 : decode cX7_areAlike 16 = .ok (.invokevirtual 23, 3) := by decide +kernel
theorem dX7_areAlike_19 : decode cX7_areAlike 19 = .ok (.ifCond .eq 22, 3) := by decide +kernel
theorem dX7_areAlike_22 : decode cX7_areAlike 22 = .ok (.aload_n 0, 1) := by decide +kernel
theorem dX7_areAlike_23 : decode cX7_areAlike 23 = .ok (.getfield 9, 3) := by decide +kernel
theorem dX7_areAlike_26 : decode cX7_areAlike 26 = .ok (.iload_n 1, 1) := by decide +kernel
theorem dX7_areAlike_27 : decode cX7_areAlike 27 = .ok (.iaload, 1) := by decide +kernel
theorem dX7_areAlike_28 : decode cX7_areAlike 28 = .ok (.aload_n 0, 1) := by decide +kernel
theorem dX7_areAlike_29 : decode cX7_areAlike 29 = .ok (.getfield 9, 3) := by decide +kernel
theorem dX7_areAlike_32 : decode cX7_areAlike 32 = .ok (.iload_n 2, 1) := by decide +kernel
theorem dX7_areAlike_33 : decode cX7_areAlike 33 = .ok (.iaload, 1) := by decide +kernel
theorem dX7_areAlike_34 : decode cX7_areAlike 34 = .ok (.if_icmp .ne 7, 3) := by decide +kernel
theorem dX7_areAlike_37 : decode cX7_areAlike 37 = .ok (.iconst 1, 1) := by decide +kernel
theorem dX7_areAlike_38 : decode cX7_areAlike 38 = .ok (.goto 4, 3) := by decide +kernel
theorem dX7_areAlike_41 : decode cX7_areAlike 41 = .ok (.iconst 0, 1) := by decide +kernel
theorem dX7_areAlike_42 : decode cX7_areAlike 42 = .ok (.ireturn, 1) := by decide +kernel
theorem dX7_howMany_0 : decode cX7_howMany 0 = .ok (.iconst 0, 1) := by decide +kernel
theorem dX7_howMany_1 : decode cX7_howMany 1 = .ok (.istore_n 1, 1) := by decide +kernel
theorem dX7_howMany_2 : decode cX7_howMany 2 = .ok (.iload_n 1, 1) := by decide +kernel
theorem dX7_howMany_3 : decode cX7_howMany 3 = .ok (.iconst 4, 1) := by decide +kernel
theorem dX7_howMany_4 : decode cX7_howMany 4 = .ok (.if_icmp .ge 65, 3) := by decide +kernel
theorem dX7_howMany_7 : decode cX7_howMany 7 = .ok (.aload_n 0, 1) := by decide +kernel
theorem dX7_howMany_8 : decode cX7_howMany 8 = .ok (.getfield 15, 3) := by decide +kernel
theorem dX7_howMany_11 : decode cX7_howMany 11 = .ok (.iload_n 1, 1) := by decide +kernel
theorem dX7_howMany_12 : decode cX7_howMany 12 = .ok (.invokevirtual 23, 3) := by decide +kernel
theorem dX7_howMany_15 : decode cX7_howMany 15 = .ok (.ifCond .eq 14, 3) := by decide +kernel
theorem dX7_howMany_18 : decode cX7_howMany 18 = .ok (.aload_n 0, 1) := by decide +kernel
theorem dX7_howMany_19 : decode cX7_howMany 19 = .ok (.getfield 19, 3) := by decide +kernel
theorem dX7_howMany_22 : decode cX7_howMany 22 = .ok (.iload_n 1, 1) := by decide +kernel
theorem dX7_howMany_23 : decode cX7_howMany 23 = .ok (.invokevirtual 29, 3) := by decide +kernel
theorem dX7_howMany_26 : decode cX7_howMany 26 = .ok (.goto 5, 3) := by decide +kernel
theorem dX7_howMany_29 : decode cX7_howMany 29 = .ok (.bipush (-6), 2) := by decide +kernel
theorem dX7_howMany_31 : decode cX7_howMany 31 = .ok (.istore_n 2, 1) := by decide +kernel
theorem dX7_howMany_32 : decode cX7_howMany 32 = .ok (.aload_n 0, 1) := by decide +kernel
theorem dX7_howMany_33 : decode cX7_howMany 33 = .ok (.getfield 9, 3) := by decide +kernel
theorem dX7_howMany_36 : decode cX7_howMany 36 = .ok (.iload_n 1, 1) := by decide +kernel
theorem dX7_howMany_37 : decode cX7_howMany 37 = .ok (.iload_n 2, 1) := by decide +kernel
theorem dX7_howMany_38 : decode cX7_howMany 38 = .ok (.bipush (-6), 2) := by decide +kernel
theorem dX7_howMany_40 : decode cX7_howMany 40 = .ok (.if_icmp .ne 8, 3) := by decide +kernel
theorem dX7_howMany_43 : decode cX7_howMany 43 = .ok (.bipush (-6), 2) := by decide +kernel
theorem dX7_howMany_45 : decode cX7_howMany 45 = .ok (.goto 17, 3) := by decide +kernel
theorem dX7_howMany_48 : decode cX7_howMany 48 = .ok (.bipush 10, 2) := by decide +kernel
theorem dX7_howMany_50 : decode cX7_howMany 50 = .ok (.iload_n 2, 1) := by decide +kernel
theorem dX7_howMany_51 : decode cX7_howMany 51 = .ok (.imul, 1) := by decide +kernel
theorem dX7_howMany_52 : decode cX7_howMany 52 = .ok (.aload_n 0, 1) := by decide +kernel
theorem dX7_howMany_53 : decode cX7_howMany 53 = .ok (.getfield 19, 3) := by decide +kernel
theorem dX7_howMany_56 : decode cX7_howMany 56 = .ok (.iload_n 1, 1) := by decide +kernel
theorem dX7_howMany_57 : decode cX7_howMany 57 = .ok (.iload_n 2, 1) := by decide +kernel
theorem dX7_howMany_58 : decode cX7_howMany 58 = .ok (.invokevirtual 35, 3) := by decide +kernel
theorem dX7_howMany_61 : decode cX7_howMany 61 = .ok (.iadd, 1) := by decide +kernel
theorem dX7_howMany_62 : decode cX7_howMany 62 = .ok (.iastore, 1) := by decide +kernel
theorem dX7_howMany_63 : decode cX7_howMany 63 = .ok (.iinc 1 1, 3) := by decide +kernel
theorem dX7_howMany_66 : decode cX7_howMany 66 = .ok (.goto (-64), 3) := by decide +kernel
theorem dX7_howMany_69 : decode cX7_howMany 69 = .ok (.iconst 0, 1) := by decide +kernel
theorem dX7_howMany_70 : decode cX7_howMany 70 = .ok (.istore_n 1, 1) := by decide +kernel
theorem dX7_howMany_71 : decode cX7_howMany 71 = .ok (.iconst 0, 1) := by decide +kernel
theorem dX7_howMany_72 : decode cX7_howMany 72 = .ok (.istore_n 2, 1) := by decide +kernel
theorem dX7_howMany_73 : decode cX7_howMany 73 = .ok (.iload_n 2, 1) := by decide +kernel
theorem dX7_howMany_74 : decode cX7_howMany 74 = .ok (.iconst 4, 1) := by decide +kernel
theorem dX7_howMany_75 : decode cX7_howMany 75 = .ok (.if_icmp .ge 36, 3) := by decide +kernel
theorem dX7_howMany_78 : decode cX7_howMany 78 = .ok (.iload_n 2, 1) := by decide +kernel
theorem dX7_howMany_79 : decode cX7_howMany 79 = .ok (.iconst 1, 1) := by decide +kernel
theorem dX7_howMany_80 : decode cX7_howMany 80 = .ok (.iadd, 1) := by decide +kernel
theorem dX7_howMany_81 : decode cX7_howMany 81 = .ok (.istore_n 3, 1) := by decide +kernel
theorem dX7_howMany_82 : decode cX7_howMany 82 = .ok (.iload_n 3, 1) := by decide +kernel
theorem dX7_howMany_83 : decode cX7_howMany 83 = .ok (.iconst 4, 1) := by decide +kernel
theorem dX7_howMany_84 : decode cX7_howMany 84 = .ok (.if_icmp .ge 21, 3) := by decide +kernel
theorem dX7_howMany_87 : decode cX7_howMany 87 = .ok (.aload_n 0, 1) := by decide +kernel
theorem dX7_howMany_88 : decode cX7_howMany 88 = .ok (.iload_n 2, 1) := by decide +kernel
theorem dX7_howMany_89 : decode cX7_howMany 89 = .ok (.iload_n 3, 1) := by decide +kernel
theorem dX7_howMany_90 : decode cX7_howMany 90 = .ok (.invokevirtual 39, 3) := by decide +kernel
theorem dX7_howMany_93 : decode cX7_howMany 93 = .ok (.ifCond .eq 6, 3) := by decide +kernel
theorem dX7_howMany_96 : decode cX7_howMany 96 = .ok (.iinc 1 1, 3) := by decide +kernel
theorem dX7_howMany_99 : decode cX7_howMany 99 = .ok (.iinc 3 1, 3) := by decide +kernel
theorem dX7_howMany_102 : decode cX7_howMany 102 = .ok (.goto (-20), 3) := by decide +kernel
theorem dX7_howMany_105 : decode cX7_howMany 105 = .ok (.iinc 2 1, 3) := by decide +kernel
theorem dX7_howMany_108 : decode cX7_howMany 108 = .ok (.goto (-35), 3) := by decide +kernel
theorem dX7_howMany_111 : decode cX7_howMany 111 = .ok (.iload_n 1, 1) := by decide +kernel
theorem dX7_howMany_112 : decode cX7_howMany 112 = .ok (.ireturn, 1) := by decide +kernel
theorem dX7_atPlace_0 : decode cX7_atPlace 0 = .ok (.iload_n 1, 1) := by decide +kernel
theorem dX7_atPlace_1 : decode cX7_atPlace 1 = .ok (.ifCond .lt 11, 3) := by decide +kernel
theorem dX7_atPlace_4 : decode cX7_atPlace 4 = .ok (.iload_n 1, 1) := by decide +kernel
theorem dX7_atPlace_5 : decode cX7_atPlace 5 = .ok (.aload_n 0, 1) := by decide +kernel
theorem dX7_atPlace_6 : decode cX7_atPlace 6 = .ok (.invokevirtual 43, 3) := by decide +kernel
theorem dX7_atPlace_9 : decode cX7_atPlace 9 = .ok (.if_icmp .lt 6, 3) := by decide +kernel
theorem dX7_atPlace_12 : decode cX7_atPlace 12 = .ok (.bipush (-6), 2) := by decide +kernel
theorem dX7_atPlace_14 : decode cX7_atPlace 14 = .ok (.ireturn, 1) := by decide +kernel
theorem dX7_atPlace_15 : decode cX7_atPlace 15 = .ok (.iload_n 1, 1) := by decide +kernel
theorem dX7_atPlace_16 : decode cX7_atPlace 16 = .ok (.istore_n 2, 1) := by decide +kernel
theorem dX7_atPlace_17 : decode cX7_atPlace 17 = .ok (.iconst 0, 1) := by decide +kernel
theorem dX7_atPlace_18 : decode cX7_atPlace 18 = .ok (.istore_n 3, 1) := by decide +kernel
theorem dX7_atPlace_19 : decode cX7_atPlace 19 = .ok (.iload_n 3, 1) := by decide +kernel
theorem dX7_atPlace_20 : decode cX7_atPlace 20 = .ok (.iconst 4, 1) := by decide +kernel
theorem dX7_atPlace_21 : decode cX7_atPlace 21 = .ok (.if_icmp .ge 54, 3) := by decide +kernel
theorem dX7_atPlace_24 : decode cX7_atPlace 24 = .ok (.iload_n 3, 1) := by decide +kernel
theorem dX7_atPlace_25 : decode cX7_atPlace 25 = .ok (.iconst 1, 1) := by decide +kernel
theorem dX7_atPlace_26 : decode cX7_atPlace 26 = .ok (.iadd, 1) := by decide +kernel
theorem dX7_atPlace_27 : decode cX7_atPlace 27 = .ok (.istore 4, 2) := by decide +kernel
theorem dX7_atPlace_29 : decode cX7_atPlace 29 = .ok (.iload 4, 2) := by decide +kernel
theorem dX7_atPlace_31 : decode cX7_atPlace 31 = .ok (.iconst 4, 1) := by decide +kernel
theorem dX7_atPlace_32 : decode cX7_atPlace 32 = .ok (.if_icmp .ge 37, 3) := by decide +kernel
theorem dX7_atPlace_35 : decode cX7_atPlace 35 = .ok (.aload_n 0, 1) := by decide +kernel
theorem dX7_atPlace_36 : decode cX7_atPlace 36 = .ok (.iload_n 3, 1) := by decide +kernel
theorem dX7_atPlace_37 : decode cX7_atPlace 37 = .ok (.iload 4, 2) := by decide +kernel
theorem dX7_atPlace_39 : decode cX7_atPlace 39 = .ok (.invokevirtual 39, 3) := by decide +kernel
theorem dX7_atPlace_42 : decode cX7_atPlace 42 = .ok (.ifCond .ne 6, 3) := by decide +kernel
theorem dX7_atPlace_45 : decode cX7_atPlace 45 = .ok (.goto 18, 3) := by decide +kernel
theorem dX7_atPlace_48 : decode cX7_atPlace 48 = .ok (.iload_n 2, 1) := by decide +kernel
theorem dX7_atPlace_49 : decode cX7_atPlace 49 = .ok (.ifCond .ne 11, 3) := by decide +kernel
theorem dX7_atPlace_52 : decode cX7_atPlace 52 = .ok (.bipush 10, 2) := by decide +kernel
theorem dX7_atPlace_54 : decode cX7_atPlace 54 = .ok (.iload_n 3, 1) := by decide +kernel
theorem dX7_atPlace_55 : decode cX7_atPlace 55 = .ok (.imul, 1) := by decide +kernel
theorem dX7_atPlace_56 : decode cX7_atPlace 56 = .ok (.iload 4, 2) := by decide +kernel
theorem dX7_atPlace_58 : decode cX7_atPlace 58 = .ok (.iadd, 1) := by decide +kernel
theorem dX7_atPlace_59 : decode cX7_atPlace 59 = .ok (.ireturn, 1) := by decide +kernel
theorem dX7_atPlace_60 : decode cX7_atPlace 60 = .ok (.iinc 2 (-1), 3) := by decide +kernel
theorem dX7_atPlace_63 : decode cX7_atPlace 63 = .ok (.iinc 4 1, 3) := by decide +kernel
theorem dX7_atPlace_66 : decode cX7_atPlace 66 = .ok (.goto (-37), 3) := by decide +kernel
theorem dX7_atPlace_69 : decode cX7_atPlace 69 = .ok (.iinc 3 1, 3) := by decide +kernel
theorem dX7_atPlace_72 : decode cX7_atPlace 72 = .ok (.goto (-53), 3) := by decide +kernel
theorem dX7_atPlace_75 : decode cX7_atPlace 75 = .ok (.bipush (-6), 2) := by decide +kernel
theorem dX7_atPlace_77 : decode cX7_atPlace 77 = .ok (.ireturn, 1) := by decide +kernel
theorem dX7_fewestLaidAnew_0 : decode cX7_fewestLaidAnew 0 = .ok (.aload_n 0, 1) := by decide +kernel
theorem dX7_fewestLaidAnew_1 : decode cX7_fewestLaidAnew 1 = .ok (.invokevirtual 43, 3) := by decide +kernel
theorem dX7_fewestLaidAnew_4 : decode cX7_fewestLaidAnew 4 = .ok (.ifCond .ne 5, 3) := by decide +kernel
theorem dX7_fewestLaidAnew_7 : decode cX7_fewestLaidAnew 7 = .ok (.iconst 0, 1) := by decide +kernel
theorem dX7_fewestLaidAnew_8 : decode cX7_fewestLaidAnew 8 = .ok (.ireturn, 1) := by decide +kernel
theorem dX7_fewestLaidAnew_9 : decode cX7_fewestLaidAnew 9 = .ok (.iconst 0, 1) := by decide +kernel
theorem dX7_fewestLaidAnew_10 : decode cX7_fewestLaidAnew 10 = .ok (.istore_n 1, 1) := by decide +kernel
theorem dX7_fewestLaidAnew_11 : decode cX7_fewestLaidAnew 11 = .ok (.iload_n 1, 1) := by decide +kernel
theorem dX7_fewestLaidAnew_12 : decode cX7_fewestLaidAnew 12 = .ok (.aload_n 0, 1) := by decide +kernel
theorem dX7_fewestLaidAnew_13 : decode cX7_fewestLaidAnew 13 = .ok (.getfield 15, 3) := by decide +kernel
theorem dX7_fewestLaidAnew_16 : decode cX7_fewestLaidAnew 16 = .ok (.getfield 47, 3) := by decide +kernel
theorem dX7_fewestLaidAnew_19 : decode cX7_fewestLaidAnew 19 = .ok (.if_icmp .ge 22, 3) := by decide +kernel
theorem dX7_fewestLaidAnew_22 : decode cX7_fewestLaidAnew 22 = .ok (.aload_n 0, 1) := by decide +kernel
theorem dX7_fewestLaidAnew_23 : decode cX7_fewestLaidAnew 23 = .ok (.iload_n 1, 1) := by decide +kernel
theorem dX7_fewestLaidAnew_24 : decode cX7_fewestLaidAnew 24 = .ok (.iload_n 1, 1) := by decide +kernel
theorem dX7_fewestLaidAnew_25 : decode cX7_fewestLaidAnew 25 = .ok (.invokevirtual 51, 3) := by decide +kernel
theorem dX7_fewestLaidAnew_28 : decode cX7_fewestLaidAnew 28 = .ok (.ifCond .eq 7, 3) := by decide +kernel
theorem dX7_fewestLaidAnew_31 : decode cX7_fewestLaidAnew 31 = .ok (.iconst 1, 1) := by decide +kernel
theorem dX7_fewestLaidAnew_32 : decode cX7_fewestLaidAnew 32 = .ok (.iload_n 1, 1) := by decide +kernel
theorem dX7_fewestLaidAnew_33 : decode cX7_fewestLaidAnew 33 = .ok (.ishl, 1) := by decide +kernel
theorem dX7_fewestLaidAnew_34 : decode cX7_fewestLaidAnew 34 = .ok (.ireturn, 1) := by decide +kernel
theorem dX7_fewestLaidAnew_35 : decode cX7_fewestLaidAnew 35 = .ok (.iinc 1 1, 3) := by decide +kernel
theorem dX7_fewestLaidAnew_38 : decode cX7_fewestLaidAnew 38 = .ok (.goto (-27), 3) := by decide +kernel
theorem dX7_fewestLaidAnew_41 : decode cX7_fewestLaidAnew 41 = .ok (.iconst 1, 1) := by decide +kernel
theorem dX7_fewestLaidAnew_42 : decode cX7_fewestLaidAnew 42 = .ok (.istore_n 1, 1) := by decide +kernel
theorem dX7_fewestLaidAnew_43 : decode cX7_fewestLaidAnew 43 = .ok (.iload_n 1, 1) := by decide +kernel
theorem dX7_fewestLaidAnew_44 : decode cX7_fewestLaidAnew 44 = .ok (.aload_n 0, 1) := by decide +kernel
theorem dX7_fewestLaidAnew_45 : decode cX7_fewestLaidAnew 45 = .ok (.getfield 15, 3) := by decide +kernel
theorem dX7_fewestLaidAnew_48 : decode cX7_fewestLaidAnew 48 = .ok (.getfield 47, 3) := by decide +kernel
theorem dX7_fewestLaidAnew_51 : decode cX7_fewestLaidAnew 51 = .ok (.if_icmp .ge 39, 3) := by decide +kernel
theorem dX7_fewestLaidAnew_54 : decode cX7_fewestLaidAnew 54 = .ok (.iconst 0, 1) := by decide +kernel
theorem dX7_fewestLaidAnew_55 : decode cX7_fewestLaidAnew 55 = .ok (.istore_n 2, 1) := by decide +kernel
theorem dX7_fewestLaidAnew_56 : decode cX7_fewestLaidAnew 56 = .ok (.iload_n 2, 1) := by decide +kernel
theorem dX7_fewestLaidAnew_57 : decode cX7_fewestLaidAnew 57 = .ok (.iload_n 1, 1) := by decide +kernel
theorem dX7_fewestLaidAnew_58 : decode cX7_fewestLaidAnew 58 = .ok (.if_icmp .ge 26, 3) := by decide +kernel
theorem dX7_fewestLaidAnew_61 : decode cX7_fewestLaidAnew 61 = .ok (.aload_n 0, 1) := by decide +kernel
theorem dX7_fewestLaidAnew_62 : decode cX7_fewestLaidAnew 62 = .ok (.iload_n 2, 1) := by decide +kernel
theorem dX7_fewestLaidAnew_63 : decode cX7_fewestLaidAnew 63 = .ok (.iload_n 1, 1) := by decide +kernel
theorem dX7_fewestLaidAnew_64 : decode cX7_fewestLaidAnew 64 = .ok (.invokevirtual 51, 3) := by decide +kernel
theorem dX7_fewestLaidAnew_67 : decode cX7_fewestLaidAnew 67 = .ok (.ifCond .eq 11, 3) := by decide +kernel
theorem dX7_fewestLaidAnew_70 : decode cX7_fewestLaidAnew 70 = .ok (.iconst 1, 1) := by decide +kernel
theorem dX7_fewestLaidAnew_71 : decode cX7_fewestLaidAnew 71 = .ok (.iload_n 2, 1) := by decide +kernel
theorem dX7_fewestLaidAnew_72 : decode cX7_fewestLaidAnew 72 = .ok (.ishl, 1) := by decide +kernel
theorem dX7_fewestLaidAnew_73 : decode cX7_fewestLaidAnew 73 = .ok (.iconst 1, 1) := by decide +kernel
theorem dX7_fewestLaidAnew_74 : decode cX7_fewestLaidAnew 74 = .ok (.iload_n 1, 1) := by decide +kernel
theorem dX7_fewestLaidAnew_75 : decode cX7_fewestLaidAnew 75 = .ok (.ishl, 1) := by decide +kernel
theorem dX7_fewestLaidAnew_76 : decode cX7_fewestLaidAnew 76 = .ok (.ior, 1) := by decide +kernel
theorem dX7_fewestLaidAnew_77 : decode cX7_fewestLaidAnew 77 = .ok (.ireturn, 1) := by decide +kernel
theorem dX7_fewestLaidAnew_78 : decode cX7_fewestLaidAnew 78 = .ok (.iinc 2 1, 3) := by decide +kernel
theorem dX7_fewestLaidAnew_81 : decode cX7_fewestLaidAnew 81 = .ok (.goto (-25), 3) := by decide +kernel
theorem dX7_fewestLaidAnew_84 : decode cX7_fewestLaidAnew 84 = .ok (.iinc 1 1, 3) := by decide +kernel
theorem dX7_fewestLaidAnew_87 : decode cX7_fewestLaidAnew 87 = .ok (.goto (-44), 3) := by decide +kernel
theorem dX7_fewestLaidAnew_90 : decode cX7_fewestLaidAnew 90 = .ok (.bipush (-6), 2) := by decide +kernel
theorem dX7_fewestLaidAnew_92 : decode cX7_fewestLaidAnew 92 = .ok (.ireturn, 1) := by decide +kernel
theorem dX7_helps_0 : decode cX7_helps 0 = .ok (.aload_n 0, 1) := by decide +kernel
theorem dX7_helps_1 : decode cX7_helps 1 = .ok (.getfield 15, 3) := by decide +kernel
theorem dX7_helps_4 : decode cX7_helps 4 = .ok (.getfield 54, 3) := by decide +kernel
theorem dX7_helps_7 : decode cX7_helps 7 = .ok (.iload_n 1, 1) := by decide +kernel
theorem dX7_helps_8 : decode cX7_helps 8 = .ok (.ishr, 1) := by decide +kernel
theorem dX7_helps_9 : decode cX7_helps 9 = .ok (.iconst 1, 1) := by decide +kernel
theorem dX7_helps_10 : decode cX7_helps 10 = .ok (.iand, 1) := by decide +kernel
theorem dX7_helps_11 : decode cX7_helps 11 = .ok (.iconst 1, 1) := by decide +kernel
theorem dX7_helps_12 : decode cX7_helps 12 = .ok (.if_icmp .eq 18, 3) := by decide +kernel
theorem dX7_helps_15 : decode cX7_helps 15 = .ok (.aload_n 0, 1) := by decide +kernel
theorem dX7_helps_16 : decode cX7_helps 16 = .ok (.getfield 15, 3) := by decide +kernel
theorem dX7_helps_19 : decode cX7_helps 19 = .ok (.getfield 54, 3) := by decide +kernel
theorem dX7_helps_22 : decode cX7_helps 22 = .ok (.iload_n 2, 1) := by decide +kernel
theorem dX7_helps_23 : decode cX7_helps 23 = .ok (.ishr, 1) := by decide +kernel
theorem dX7_helps_24 : decode cX7_helps 24 = .ok (.iconst 1, 1) := by decide +kernel
theorem dX7_helps_25 : decode cX7_helps 25 = .ok (.iand, 1) := by decide +kernel
theorem dX7_helps_26 : decode cX7_helps 26 = .ok (.iconst 1, 1) := by decide +kernel
theorem dX7_helps_27 : decode cX7_helps 27 = .ok (.if_icmp .ne 5, 3) := by decide +kernel
theorem dX7_helps_30 : decode cX7_helps 30 = .ok (.iconst 0, 1) := by decide +kernel
theorem dX7_helps_31 : decode cX7_helps 31 = .ok (.ireturn, 1) := by decide +kernel
theorem dX7_helps_32 : decode cX7_helps 32 = .ok (.iconst 0, 1) := by decide +kernel
theorem dX7_helps_33 : decode cX7_helps 33 = .ok (.istore_n 3, 1) := by decide +kernel
theorem dX7_helps_34 : decode cX7_helps 34 = .ok (.iconst 0, 1) := by decide +kernel
theorem dX7_helps_35 : decode cX7_helps 35 = .ok (.istore 4, 2) := by decide +kernel
theorem dX7_helps_37 : decode cX7_helps 37 = .ok (.iload 4, 2) := by decide +kernel
theorem dX7_helps_39 : decode cX7_helps 39 = .ok (.bipush 9, 2) := by decide +kernel
theorem dX7_helps_41 : decode cX7_helps 41 = .ok (.if_icmp .gt 68, 3) := by decide +kernel
theorem dX7_helps_44 : decode cX7_helps 44 = .ok (.iload_n 3, 1) := by decide +kernel
theorem dX7_helps_45 : decode cX7_helps 45 = .ok (.ifCond .ne 64, 3) := by decide +kernel
theorem dX7_helps_48 : decode cX7_helps 48 = .ok (.iconst 0, 1) := by decide +kernel
theorem dX7_helps_49 : decode cX7_helps 49 = .ok (.istore 5, 2) := by decide +kernel
theorem dX7_helps_51 : decode cX7_helps 51 = .ok (.iload 5, 2) := by decide +kernel
theorem dX7_helps_53 : decode cX7_helps 53 = .ok (.bipush 9, 2) := by decide +kernel
theorem dX7_helps_55 : decode cX7_helps 55 = .ok (.if_icmp .gt 48, 3) := by decide +kernel
theorem dX7_helps_58 : decode cX7_helps 58 = .ok (.iload_n 3, 1) := by decide +kernel
theorem dX7_helps_59 : decode cX7_helps 59 = .ok (.ifCond .ne 44, 3) := by decide +kernel
theorem dX7_helps_62 : decode cX7_helps 62 = .ok (.aload_n 0, 1) := by decide +kernel
theorem dX7_helps_63 : decode cX7_helps 63 = .ok (.getfield 19, 3) := by decide +kernel
theorem dX7_helps_66 : decode cX7_helps 66 = .ok (.getfield 57, 3) := by decide +kernel
theorem dX7_helps_69 : decode cX7_helps 69 = .ok (.iload_n 1, 1) := by decide +kernel
theorem dX7_helps_70 : decode cX7_helps 70 = .ok (.iload 4, 2) := by decide +kernel
theorem dX7_helps_72 : decode cX7_helps 72 = .ok (.iastore, 1) := by decide +kernel
theorem dX7_helps_73 : decode cX7_helps 73 = .ok (.aload_n 0, 1) := by decide +kernel
theorem dX7_helps_74 : decode cX7_helps 74 = .ok (.getfield 19, 3) := by decide +kernel
theorem dX7_helps_77 : decode cX7_helps 77 = .ok (.getfield 57, 3) := by decide +kernel
theorem dX7_helps_80 : decode cX7_helps 80 = .ok (.iload_n 2, 1) := by decide +kernel
theorem dX7_helps_81 : decode cX7_helps 81 = .ok (.iload 5, 2) := by decide +kernel
theorem dX7_helps_83 : decode cX7_helps 83 = .ok (.iastore, 1) := by decide +kernel
theorem dX7_helps_84 : decode cX7_helps 84 = .ok (.aload_n 0, 1) := by decide +kernel
theorem dX7_helps_85 : decode cX7_helps 85 = .ok (.invokevirtual 43, 3) := by decide +kernel
theorem dX7_helps_88 : decode cX7_helps 88 = .ok (.ifCond .ne 7, 3) := by decide +kernel
theorem dX7_helps_91 : decode cX7_helps 91 = .ok (.iconst 1, 1) := by decide +kernel
theorem dX7_helps_92 : decode cX7_helps 92 = .ok (.goto 4, 3) := by decide +kernel
theorem dX7_helps_95 : decode cX7_helps 95 = .ok (.iconst 0, 1) := by decide +kernel
theorem dX7_helps_96 : decode cX7_helps 96 = .ok (.istore_n 3, 1) := by decide +kernel
theorem dX7_helps_97 : decode cX7_helps 97 = .ok (.iinc 5 1, 3) := by decide +kernel
theorem dX7_helps_100 : decode cX7_helps 100 = .ok (.goto (-49), 3) := by decide +kernel
theorem dX7_helps_103 : decode cX7_helps 103 = .ok (.iinc 4 1, 3) := by decide +kernel
theorem dX7_helps_106 : decode cX7_helps 106 = .ok (.goto (-69), 3) := by decide +kernel
theorem dX7_helps_109 : decode cX7_helps 109 = .ok (.aload_n 0, 1) := by decide +kernel
theorem dX7_helps_110 : decode cX7_helps 110 = .ok (.getfield 19, 3) := by decide +kernel
theorem dX7_helps_113 : decode cX7_helps 113 = .ok (.getfield 57, 3) := by decide +kernel
theorem dX7_helps_116 : decode cX7_helps 116 = .ok (.iload_n 1, 1) := by decide +kernel
theorem dX7_helps_117 : decode cX7_helps 117 = .ok (.aload_n 0, 1) := by decide +kernel
theorem dX7_helps_118 : decode cX7_helps 118 = .ok (.getfield 15, 3) := by decide +kernel
theorem dX7_helps_121 : decode cX7_helps 121 = .ok (.getfield 60, 3) := by decide +kernel
theorem dX7_helps_124 : decode cX7_helps 124 = .ok (.iload_n 1, 1) := by decide +kernel
theorem dX7_helps_125 : decode cX7_helps 125 = .ok (.iaload, 1) := by decide +kernel
theorem dX7_helps_126 : decode cX7_helps 126 = .ok (.iastore, 1) := by decide +kernel
theorem dX7_helps_127 : decode cX7_helps 127 = .ok (.aload_n 0, 1) := by decide +kernel
theorem dX7_helps_128 : decode cX7_helps 128 = .ok (.getfield 19, 3) := by decide +kernel
theorem dX7_helps_131 : decode cX7_helps 131 = .ok (.getfield 57, 3) := by decide +kernel
theorem dX7_helps_134 : decode cX7_helps 134 = .ok (.iload_n 2, 1) := by decide +kernel
theorem dX7_helps_135 : decode cX7_helps 135 = .ok (.aload_n 0, 1) := by decide +kernel
theorem dX7_helps_136 : decode cX7_helps 136 = .ok (.getfield 15, 3) := by decide +kernel
theorem dX7_helps_139 : decode cX7_helps 139 = .ok (.getfield 60, 3) := by decide +kernel
theorem dX7_helps_142 : decode cX7_helps 142 = .ok (.iload_n 2, 1) := by decide +kernel
theorem dX7_helps_143 : decode cX7_helps 143 = .ok (.iaload, 1) := by decide +kernel
theorem dX7_helps_144 : decode cX7_helps 144 = .ok (.iastore, 1) := by decide +kernel
theorem dX7_helps_145 : decode cX7_helps 145 = .ok (.iload_n 3, 1) := by decide +kernel
theorem dX7_helps_146 : decode cX7_helps 146 = .ok (.ireturn, 1) := by decide +kernel
end
section
theorem dX8_init_0 : decode cX8_init 0 = .ok (.aload_n 0, 1) := by decide +kernel
theorem dX8_init_1 : decode cX8_init 1 = .ok (.invokespecial 1, 3) := by decide +kernel
theorem dX8_init_4 : decode cX8_init 4 = .ok (.aload_n 0, 1) := by decide +kernel
theorem dX8_init_5 : decode cX8_init 5 = .ok (.new 7, 3) := by decide +kernel
theorem dX8_init_8 : decode cX8_init 8 = .ok (.dup, 1) := by decide +kernel
theorem dX8_init_9 : decode cX8_init 9 = .ok (.invokespecial 9, 3) := by decide +kernel
theorem dX8_init_12 : decode cX8_init 12 = .ok (.putfield 10, 3) := by decide +kernel
theorem dX8_init_15 : decode cX8_init 15 = .ok (.aload_n 0, 1) := by decide +kernel
theorem dX8_init_16 : decode cX8_init 16 = .ok (.iconst 2, 1) := by decide +kernel
theorem dX8_init_17 : decode cX8_init 17 = .ok (.anewarray 7, 3) := by decide +kernel
theorem dX8_init_20 : decode cX8_init 20 = .ok (.dup, 1) := by decide +kernel
theorem dX8_init_21 : decode cX8_init 21 = .ok (.iconst 0, 1) := by decide +kernel
theorem dX8_init_22 : decode cX8_init 22 = .ok (.new 7, 3) := by decide +kernel
theorem dX8_init_25 : decode cX8_init 25 = .ok (.dup, 1) := by decide +kernel
theorem dX8_init_26 : decode cX8_init 26 = .ok (.invokespecial 9, 3) := by decide +kernel
theorem dX8_init_29 : decode cX8_init 29 = .ok (.aastore, 1) := by decide +kernel
theorem dX8_init_30 : decode cX8_init 30 = .ok (.dup, 1) := by decide +kernel
theorem dX8_init_31 : decode cX8_init 31 = .ok (.iconst 1, 1) := by decide +kernel
theorem dX8_init_32 : decode cX8_init 32 = .ok (.new 7, 3) := by decide +kernel
theorem dX8_init_35 : decode cX8_init 35 = .ok (.dup, 1) := by decide +kernel
theorem dX8_init_36 : decode cX8_init 36 = .ok (.invokespecial 9, 3) := by decide +kernel
theorem dX8_init_39 : decode cX8_init 39 = .ok (.aastore, 1) := by decide +kernel
theorem dX8_init_40 : decode cX8_init 40 = .ok (.putfield 16, 3) := by decide +kernel
theorem dX8_init_43 : decode cX8_init 43 = .ok (.aload_n 0, 1) := by decide +kernel
theorem dX8_init_44 : decode cX8_init 44 = .ok (.iconst 2, 1) := by decide +kernel
theorem dX8_init_45 : decode cX8_init 45 = .ok (.newarray .boolean, 2) := by decide +kernel
theorem dX8_init_47 : decode cX8_init 47 = .ok (.putfield 20, 3) := by decide +kernel
theorem dX8_init_50 : decode cX8_init 50 = .ok (.aload_n 0, 1) := by decide +kernel
theorem dX8_init_51 : decode cX8_init 51 = .ok (.new 24, 3) := by decide +kernel
theorem dX8_init_54 : decode cX8_init 54 = .ok (.dup, 1) := by decide +kernel
theorem dX8_init_55 : decode cX8_init 55 = .ok (.invokespecial 26, 3) := by decide +kernel
theorem dX8_init_58 : decode cX8_init 58 = .ok (.putfield 27, 3) := by decide +kernel
theorem dX8_init_61 : decode cX8_init 61 = .ok (.aload_n 0, 1) := by decide +kernel
theorem dX8_init_62 : decode cX8_init 62 = .ok (.new 31, 3) := by decide +kernel
theorem dX8_init_65 : decode cX8_init 65 = .ok (.dup, 1) := by decide +kernel
theorem dX8_init_66 : decode cX8_init 66 = .ok (.aload_n 0, 1) := by decide +kernel
theorem dX8_init_67 : decode cX8_init 67 = .ok (.getfield 10, 3) := by decide +kernel
theorem dX8_init_70 : decode cX8_init 70 = .ok (.invokespecial 33, 3) := by decide +kernel
theorem dX8_init_73 : decode cX8_init 73 = .ok (.putfield 36, 3) := by decide +kernel
theorem dX8_init_76 : decode cX8_init 76 = .ok (.aload_n 0, 1) := by decide +kernel
theorem dX8_init_77 : decode cX8_init 77 = .ok (.new 40, 3) := by decide +kernel
theorem dX8_init_80 : decode cX8_init 80 = .ok (.dup, 1) := by decide +kernel
theorem dX8_init_81 : decode cX8_init 81 = .ok (.aload_n 0, 1) := by decide +kernel
theorem dX8_init_82 : decode cX8_init 82 = .ok (.getfield 10, 3) := by decide +kernel
theorem dX8_init_85 : decode cX8_init 85 = .ok (.aload_n 0, 1) := by decide +kernel
theorem dX8_init_86 : decode cX8_init 86 = .ok (.getfield 36, 3) := by decide +kernel
theorem dX8_init_89 : decode cX8_init 89 = .ok (.invokespecial 42, 3) := by decide +kernel
theorem dX8_init_92 : decode cX8_init 92 = .ok (.putfield 45, 3) := by decide +kernel
theorem dX8_init_95 : decode cX8_init 95 = .ok (.aload_n 0, 1) := by decide +kernel
theorem dX8_init_96 : decode cX8_init 96 = .ok (.new 49, 3) := by decide +kernel
theorem dX8_init_99 : decode cX8_init 99 = .ok (.dup, 1) := by decide +kernel
theorem dX8_init_100 : decode cX8_init 100 = .ok (.aload_n 0, 1) := by decide +kernel
theorem dX8_init_101 : decode cX8_init 101 = .ok (.getfield 10, 3) := by decide +kernel
theorem dX8_init_104 : decode cX8_init 104 = .ok (.aload_n 0, 1) := by decide +kernel
theorem dX8_init_105 : decode cX8_init 105 = .ok (.getfield 36, 3) := by decide +kernel
theorem dX8_init_108 : decode cX8_init 108 = .ok (.invokespecial 51, 3) := by decide +kernel
theorem dX8_init_111 : decode cX8_init 111 = .ok (.putfield 52, 3) := by decide +kernel
theorem dX8_init_114 : decode cX8_init 114 = .ok (.aload_n 0, 1) := by decide +kernel
theorem dX8_init_115 : decode cX8_init 115 = .ok (.new 56, 3) := by decide +kernel
theorem dX8_init_118 : decode cX8_init 118 = .ok (.dup, 1) := by decide +kernel
theorem dX8_init_119 : decode cX8_init 119 = .ok (.aload_n 0, 1) := by decide +kernel
theorem dX8_init_120 : decode cX8_init 120 = .ok (.getfield 10, 3) := by decide +kernel
theorem dX8_init_123 : decode cX8_init 123 = .ok (.aload_n 0, 1) := by decide +kernel
theorem dX8_init_124 : decode cX8_init 124 = .ok (.getfield 36, 3) := by decide +kernel
theorem dX8_init_127 : decode cX8_init 127 = .ok (.invokespecial 58, 3) := by decide +kernel
theorem dX8_init_130 : decode cX8_init 130 = .ok (.putfield 59, 3) := by decide +kernel
theorem dX8_init_133 : decode cX8_init 133 = .ok (.aload_n 0, 1) := by decide +kernel
theorem dX8_init_134 : decode cX8_init 134 = .ok (.new 63, 3) := by decide +kernel
theorem dX8_init_137 : decode cX8_init 137 = .ok (.dup, 1) := by decide +kernel
theorem dX8_init_138 : decode cX8_init 138 = .ok (.aload_n 0, 1) := by decide +kernel
theorem dX8_init_139 : decode cX8_init 139 = .ok (.getfield 36, 3) := by decide +kernel
theorem dX8_init_142 : decode cX8_init 142 = .ok (.invokespecial 65, 3) := by decide +kernel
theorem dX8_init_145 : decode cX8_init 145 = .ok (.putfield 68, 3) := by decide +kernel
theorem dX8_init_148 : decode cX8_init 148 = .ok (.aload_n 0, 1) := by decide +kernel
theorem dX8_init_149 : decode cX8_init 149 = .ok (.new 72, 3) := by decide +kernel
theorem dX8_init_152 : decode cX8_init 152 = .ok (.dup, 1) := by decide +kernel
theorem dX8_init_153 : decode cX8_init 153 = .ok (.aload_n 0, 1) := by decide +kernel
theorem dX8_init_154 : decode cX8_init 154 = .ok (.getfield 10, 3) := by decide +kernel
theorem dX8_init_157 : decode cX8_init 157 = .ok (.aload_n 0, 1) := by decide +kernel
theorem dX8_init_158 : decode cX8_init 158 = .ok (.getfield 36, 3) := by decide +kernel
theorem dX8_init_161 : decode cX8_init 161 = .ok (.invokespecial 74, 3) := by decide +kernel
theorem dX8_init_164 : decode cX8_init 164 = .ok (.putfield 75, 3) := by decide +kernel
theorem dX8_init_167 : decode cX8_init 167 = .ok (.return_, 1) := by decide +kernel
theorem dX8_things_0 : decode cX8_things 0 = .ok (.iload_n 1, 1) := by decide +kernel
theorem dX8_things_1 : decode cX8_things 1 = .ok (.iconst 1, 1) := by decide +kernel
theorem dX8_things_2 : decode cX8_things 2 = .ok (.if_icmp .lt 9, 3) := by decide +kernel
theorem dX8_things_5 : decode cX8_things 5 = .ok (.iload_n 1, 1) := by decide +kernel
theorem dX8_things_6 : decode cX8_things 6 = .ok (.bipush 7, 2) := by decide +kernel
theorem dX8_things_8 : decode cX8_things 8 = .ok (.if_icmp .le 6, 3) := by decide +kernel
theorem dX8_things_11 : decode cX8_things 11 = .ok (.bipush (-2), 2) := by decide +kernel
theorem dX8_things_13 : decode cX8_things 13 = .ok (.ireturn, 1) := by decide +kernel
theorem dX8_things_14 : decode cX8_things 14 = .ok (.aload_n 0, 1) := by decide +kernel
theorem dX8_things_15 : decode cX8_things 15 = .ok (.getfield 10, 3) := by decide +kernel
theorem dX8_things_18 : decode cX8_things 18 = .ok (.getfield 79, 3) := by decide +kernel
theorem dX8_things_21 : decode cX8_things 21 = .ok (.istore_n 2, 1) := by decide +kernel
theorem dX8_things_22 : decode cX8_things 22 = .ok (.aload_n 0, 1) := by decide +kernel
theorem dX8_things_23 : decode cX8_things 23 = .ok (.getfield 10, 3) := by decide +kernel
theorem dX8_things_26 : decode cX8_things 26 = .ok (.iload_n 1, 1) := by decide +kernel
theorem dX8_things_27 : decode cX8_things 27 = .ok (.invokevirtual 83, 3) := by decide +kernel
theorem dX8_things_30 : decode cX8_things 30 = .ok (.iload_n 2, 1) := by decide +kernel
theorem dX8_things_31 : decode cX8_things 31 = .ok (.ireturn, 1) := by decide +kernel
theorem dX8_thing_0 : decode cX8_thing 0 = .ok (.aload_n 0, 1) := by decide +kernel
theorem dX8_thing_1 : decode cX8_thing 1 = .ok (.getfield 10, 3) := by decide +kernel
theorem dX8_thing_4 : decode cX8_thing 4 = .ok (.iload_n 1, 1) := by decide +kernel
theorem dX8_thing_5 : decode cX8_thing 5 = .ok (.invokevirtual 87, 3) := by decide +kernel
theorem dX8_thing_8 : decode cX8_thing 8 = .ok (.ifCond .ne 5, 3) := by decide +kernel
theorem dX8_thing_11 : decode cX8_thing 11 = .ok (.iconst (-1), 1) := by decide +kernel
theorem dX8_thing_12 : decode cX8_thing 12 = .ok (.ireturn, 1) := by decide +kernel
theorem dX8_thing_13 : decode cX8_thing 13 = .ok (.iload_n 2, 1) := by decide +kernel
theorem dX8_thing_14 : decode cX8_thing 14 = .ok (.ifCond .lt 8, 3) := by decide +kernel
theorem dX8_thing_17 : decode cX8_thing 17 = .ok (.iload_n 2, 1) := by decide +kernel
theorem dX8_thing_18 : decode cX8_thing 18 = .ok (.iconst 3, 1) := by decide +kernel
theorem dX8_thing_19 : decode cX8_thing 19 = .ok (.if_icmp .le 6, 3) := by decide +kernel
theorem dX8_thing_22 : decode cX8_thing 22 = .ok (.bipush (-2), 2) := by decide +kernel
theorem dX8_thing_24 : decode cX8_thing 24 = .ok (.ireturn, 1) := by decide +kernel
theorem dX8_thing_25 : decode cX8_thing 25 = .ok (.iload_n 3, 1) := by decide +kernel
theorem dX8_thing_26 : decode cX8_thing 26 = .ok (.ifCond .lt 18, 3) := by decide +kernel
theorem dX8_thing_29 : decode cX8_thing 29 = .ok (.iload_n 3, 1) := by decide +kernel
theorem dX8_thing_30 : decode cX8_thing 30 = .ok (.iload_n 2, 1) := by decide +kernel
theorem dX8_thing_31 : decode cX8_thing 31 = .ok (.iconst 2, 1) := by decide +kernel
theorem dX8_thing_32 : decode cX8_thing 32 = .ok (.if_icmp .ne 7, 3) := by decide +kernel
theorem dX8_thing_35 : decode cX8_thing 35 = .ok (.iconst 1, 1) := by decide +kernel
theorem dX8_thing_36 : decode cX8_thing 36 = .ok (.goto 5, 3) := by decide +kernel
theorem dX8_thing_39 : decode cX8_thing 39 = .ok (.bipush 9, 2) := by decide +kernel
theorem dX8_thing_41 : decode cX8_thing 41 = .ok (.if_icmp .le 6, 3) := by decide +kernel
theorem dX8_thing_44 : decode cX8_thing 44 = .ok (.bipush (-2), 2) := by decide +kernel
theorem dX8_thing_46 : decode cX8_thing 46 = .ok (.ireturn, 1) := by decide +kernel
theorem dX8_thing_47 : decode cX8_thing 47 = .ok (.iload_n 2, 1) := by decide +kernel
theorem dX8_thing_48 : decode cX8_thing 48 = .ok (.iconst 3, 1) := by decide +kernel
theorem dX8_thing_49 : decode cX8_thing 49 = .ok (.if_icmp .ne 19, 3) := by decide +kernel
theorem dX8_thing_52 : decode cX8_thing 52 = .ok (.iload_n 3, 1) := by decide +kernel
theorem dX8_thing_53 : decode cX8_thing 53 = .ok (.aload_n 0, 1) := by decide +kernel
theorem dX8_thing_54 : decode cX8_thing 54 = .ok (.getfield 10, 3) := by decide +kernel
theorem dX8_thing_57 : decode cX8_thing 57 = .ok (.getfield 91, 3) := by decide +kernel
theorem dX8_thing_60 : decode cX8_thing 60 = .ok (.iload_n 1, 1) := by decide +kernel
theorem dX8_thing_61 : decode cX8_thing 61 = .ok (.iaload, 1) := by decide +kernel
theorem dX8_thing_62 : decode cX8_thing 62 = .ok (.if_icmp .le 6, 3) := by decide +kernel
theorem dX8_thing_65 : decode cX8_thing 65 = .ok (.bipush (-3), 2) := by decide +kernel
theorem dX8_thing_67 : decode cX8_thing 67 = .ok (.ireturn, 1) := by decide +kernel
theorem dX8_thing_68 : decode cX8_thing 68 = .ok (.aload_n 0, 1) := by decide +kernel
theorem dX8_thing_69 : decode cX8_thing 69 = .ok (.getfield 10, 3) := by decide +kernel
theorem dX8_thing_72 : decode cX8_thing 72 = .ok (.iload_n 1, 1) := by decide +kernel
theorem dX8_thing_73 : decode cX8_thing 73 = .ok (.iload_n 2, 1) := by decide +kernel
theorem dX8_thing_74 : decode cX8_thing 74 = .ok (.invokevirtual 95, 3) := by decide +kernel
theorem dX8_thing_77 : decode cX8_thing 77 = .ok (.istore 4, 2) := by decide +kernel
theorem dX8_thing_79 : decode cX8_thing 79 = .ok (.aload_n 0, 1) := by decide +kernel
theorem dX8_thing_80 : decode cX8_thing 80 = .ok (.getfield 10, 3) := by decide +kernel
theorem dX8_thing_83 : decode cX8_thing 83 = .ok (.iload_n 1, 1) := by decide +kernel
theorem dX8_thing_84 : decode cX8_thing 84 = .ok (.iload_n 2, 1) := by decide +kernel
theorem dX8_thing_85 : decode cX8_thing 85 = .ok (.iload_n 3, 1) := by decide +kernel
theorem dX8_thing_86 : decode cX8_thing 86 = .ok (.invokevirtual 99, 3) := by decide +kernel
theorem dX8_thing_89 : decode cX8_thing 89 = .ok (.iload 4, 2) := by decide +kernel
theorem dX8_thing_91 : decode cX8_thing 91 = .ok (.ireturn, 1) := by decide +kernel
theorem dX8_guest_0 : decode cX8_guest 0 = .ok (.iload_n 1, 1) := by decide +kernel
theorem dX8_guest_1 : decode cX8_guest 1 = .ok (.ifCond .lt 8, 3) := by decide +kernel
theorem dX8_guest_4 : decode cX8_guest 4 = .ok (.iload_n 1, 1) := by decide +kernel
theorem dX8_guest_5 : decode cX8_guest 5 = .ok (.iconst 4, 1) := by decide +kernel
theorem dX8_guest_6 : decode cX8_guest 6 = .ok (.if_icmp .lt 5, 3) := by decide +kernel
theorem dX8_guest_9 : decode cX8_guest 9 = .ok (.iconst (-1), 1) := by decide +kernel
theorem dX8_guest_10 : decode cX8_guest 10 = .ok (.ireturn, 1) := by decide +kernel
theorem dX8_guest_11 : decode cX8_guest 11 = .ok (.iload_n 2, 1) := by decide +kernel
theorem dX8_guest_12 : decode cX8_guest 12 = .ok (.ifCond .lt 20, 3) := by decide +kernel
theorem dX8_guest_15 : decode cX8_guest 15 = .ok (.iload_n 2, 1) := by decide +kernel
theorem dX8_guest_16 : decode cX8_guest 16 = .ok (.bipush 9, 2) := by decide +kernel
theorem dX8_guest_18 : decode cX8_guest 18 = .ok (.if_icmp .gt 14, 3) := by decide +kernel
theorem dX8_guest_21 : decode cX8_guest 21 = .ok (.iload_n 3, 1) := by decide +kernel
theorem dX8_guest_22 : decode cX8_guest 22 = .ok (.iconst 1, 1) := by decide +kernel
theorem dX8_guest_23 : decode cX8_guest 23 = .ok (.if_icmp .lt 9, 3) := by decide +kernel
theorem dX8_guest_26 : decode cX8_guest 26 = .ok (.iload_n 3, 1) := by decide +kernel
theorem dX8_guest_27 : decode cX8_guest 27 = .ok (.bipush 9, 2) := by decide +kernel
theorem dX8_guest_29 : decode cX8_guest 29 = .ok (.if_icmp .le 6, 3) := by decide +kernel
theorem dX8_guest_32 : decode cX8_guest 32 = .ok (.bipush (-2), 2) := by decide +kernel
theorem dX8_guest_34 : decode cX8_guest 34 = .ok (.ireturn, 1) := by decide +kernel
theorem dX8_guest_35 : decode cX8_guest 35 = .ok (.iload 4, 2) := by decide +kernel
theorem dX8_guest_37 : decode cX8_guest 37 = .ok (.ifCond .lt 22, 3) := by decide +kernel
theorem dX8_guest_40 : decode cX8_guest 40 = .ok (.iload 4, 2) := by decide +kernel
theorem dX8_guest_42 : decode cX8_guest 42 = .ok (.iconst 3, 1) := by decide +kernel
theorem dX8_guest_43 : decode cX8_guest 43 = .ok (.if_icmp .gt 16, 3) := by decide +kernel
theorem dX8_guest_46 : decode cX8_guest 46 = .ok (.iload 5, 2) := by decide +kernel
theorem dX8_guest_48 : decode cX8_guest 48 = .ok (.iconst 1, 1) := by decide +kernel
theorem dX8_guest_49 : decode cX8_guest 49 = .ok (.if_icmp .lt 10, 3) := by decide +kernel
theorem dX8_guest_52 : decode cX8_guest 52 = .ok (.iload 5, 2) := by decide +kernel
theorem dX8_guest_54 : decode cX8_guest 54 = .ok (.bipush 9, 2) := by decide +kernel
theorem dX8_guest_56 : decode cX8_guest 56 = .ok (.if_icmp .le 6, 3) := by decide +kernel
theorem dX8_guest_59 : decode cX8_guest 59 = .ok (.bipush (-2), 2) := by decide +kernel
theorem dX8_guest_61 : decode cX8_guest 61 = .ok (.ireturn, 1) := by decide +kernel
theorem dX8_guest_62 : decode cX8_guest 62 = .ok (.aload_n 0, 1) := by decide +kernel
theorem dX8_guest_63 : decode cX8_guest 63 = .ok (.getfield 10, 3) := by decide +kernel
theorem dX8_guest_66 : decode cX8_guest 66 = .ok (.iload_n 1, 1) := by decide +kernel
theorem dX8_guest_67 : decode cX8_guest 67 = .ok (.iload_n 2, 1) := by decide +kernel
theorem dX8_guest_68 : decode cX8_guest 68 = .ok (.iload_n 3, 1) := by decide +kernel
theorem dX8_guest_69 : decode cX8_guest 69 = .ok (.iload 4, 2) := by decide +kernel
theorem dX8_guest_71 : decode cX8_guest 71 = .ok (.iload 5, 2) := by decide +kernel
theorem dX8_guest_73 : decode cX8_guest 73 = .ok (.invokevirtual 103, 3) := by decide +kernel
theorem dX8_guest_76 : decode cX8_guest 76 = .ok (.aload_n 0, 1) := by decide +kernel
theorem dX8_guest_77 : decode cX8_guest 77 = .ok (.getfield 10, 3) := by decide +kernel
theorem dX8_guest_80 : decode cX8_guest 80 = .ok (.getfield 107, 3) := by decide +kernel
theorem dX8_guest_83 : decode cX8_guest 83 = .ok (.invokestatic 110, 3) := by decide +kernel
theorem dX8_guest_86 : decode cX8_guest 86 = .ok (.ireturn, 1) := by decide +kernel
theorem dX8_leave_0 : decode cX8_leave 0 = .ok (.aload_n 0, 1) := by decide +kernel
theorem dX8_leave_1 : decode cX8_leave 1 = .ok (.getfield 10, 3) := by decide +kernel
theorem dX8_leave_4 : decode cX8_leave 4 = .ok (.iload_n 1, 1) := by decide +kernel
theorem dX8_leave_5 : decode cX8_leave 5 = .ok (.invokevirtual 116, 3) := by decide +kernel
theorem dX8_leave_8 : decode cX8_leave 8 = .ok (.ifCond .ne 5, 3) := by decide +kernel
theorem dX8_leave_11 : decode cX8_leave 11 = .ok (.iconst (-1), 1) := by decide +kernel
theorem dX8_leave_12 : decode cX8_leave 12 = .ok (.ireturn, 1) := by decide +kernel
theorem dX8_leave_13 : decode cX8_leave 13 = .ok (.aload_n 0, 1) := by decide +kernel
theorem dX8_leave_14 : decode cX8_leave 14 = .ok (.getfield 10, 3) := by decide +kernel
theorem dX8_leave_17 : decode cX8_leave 17 = .ok (.dup, 1) := by decide +kernel
theorem dX8_leave_18 : decode cX8_leave 18 = .ok (.getfield 107, 3) := by decide +kernel
theorem dX8_leave_21 : decode cX8_leave 21 = .ok (.iconst 1, 1) := by decide +kernel
theorem dX8_leave_22 : decode cX8_leave 22 = .ok (.iload_n 1, 1) := by decide +kernel
theorem dX8_leave_23 : decode cX8_leave 23 = .ok (.ishl, 1) := by decide +kernel
theorem dX8_leave_24 : decode cX8_leave 24 = .ok (.iconst (-1), 1) := by decide +kernel
theorem dX8_leave_25 : decode cX8_leave 25 = .ok (.ixor, 1) := by decide +kernel
theorem dX8_leave_26 : decode cX8_leave 26 = .ok (.iand, 1) := by decide +kernel
theorem dX8_leave_27 : decode cX8_leave 27 = .ok (.putfield 107, 3) := by decide +kernel
theorem dX8_leave_30 : decode cX8_leave 30 = .ok (.aload_n 0, 1) := by decide +kernel
theorem dX8_leave_31 : decode cX8_leave 31 = .ok (.getfield 10, 3) := by decide +kernel
theorem dX8_leave_34 : decode cX8_leave 34 = .ok (.getfield 107, 3) := by decide +kernel
theorem dX8_leave_37 : decode cX8_leave 37 = .ok (.invokestatic 110, 3) := by decide +kernel
theorem dX8_leave_40 : decode cX8_leave 40 = .ok (.ireturn, 1) := by decide +kernel
theorem dX8_say_0 : decode cX8_say 0 = .ok (.iload_n 1, 1) := by decide +kernel
theorem dX8_say_1 : decode cX8_say 1 = .ok (.bipush 33, 2) := by decide +kernel
theorem dX8_say_3 : decode cX8_say 3 = .ok (.if_icmp .lt 9, 3) := by decide +kernel
theorem dX8_say_6 : decode cX8_say 6 = .ok (.iload_n 1, 1) := by decide +kernel
theorem dX8_say_7 : decode cX8_say 7 = .ok (.bipush 126, 2) := by decide +kernel
theorem dX8_say_9 : decode cX8_say 9 = .ok (.if_icmp .le 6, 3) := by decide +kernel
theorem dX8_say_12 : decode cX8_say 12 = .ok (.bipush (-2), 2) := by decide +kernel
theorem dX8_say_14 : decode cX8_say 14 = .ok (.ireturn, 1) := by decide +kernel
theorem dX8_say_15 : decode cX8_say 15 = .ok (.aload_n 0, 1) := by decide +kernel
theorem dX8_say_16 : decode cX8_say 16 = .ok (.getfield 27, 3) := by decide +kernel
theorem dX8_say_19 : decode cX8_say 19 = .ok (.iload_n 1, 1) := by decide +kernel
theorem dX8_say_20 : decode cX8_say 20 = .ok (.invokevirtual 119, 3) := by decide +kernel
theorem dX8_say_23 : decode cX8_say 23 = .ok (.ireturn, 1) := by decide +kernel
theorem dX8_wipe_0 : decode cX8_wipe 0 = .ok (.aload_n 0, 1) := by decide +kernel
theorem dX8_wipe_1 : decode cX8_wipe 1 = .ok (.getfield 27, 3) := by decide +kernel
theorem dX8_wipe_4 : decode cX8_wipe 4 = .ok (.getfield 122, 3) := by decide +kernel
theorem dX8_wipe_7 : decode cX8_wipe 7 = .ok (.istore_n 1, 1) := by decide +kernel
theorem dX8_wipe_8 : decode cX8_wipe 8 = .ok (.aload_n 0, 1) := by decide +kernel
theorem dX8_wipe_9 : decode cX8_wipe 9 = .ok (.getfield 27, 3) := by decide +kernel
theorem dX8_wipe_12 : decode cX8_wipe 12 = .ok (.iconst 0, 1) := by decide +kernel
theorem dX8_wipe_13 : decode cX8_wipe 13 = .ok (.putfield 122, 3) := by decide +kernel
theorem dX8_wipe_16 : decode cX8_wipe 16 = .ok (.iload_n 1, 1) := by decide +kernel
theorem dX8_wipe_17 : decode cX8_wipe 17 = .ok (.ireturn, 1) := by decide +kernel
theorem dX8_fault_0 : decode cX8_fault 0 = .ok (.aload_n 0, 1) := by decide +kernel
theorem dX8_fault_1 : decode cX8_fault 1 = .ok (.getfield 27, 3) := by decide +kernel
theorem dX8_fault_4 : decode cX8_fault 4 = .ok (.aload_n 0, 1) := by decide +kernel
theorem dX8_fault_5 : decode cX8_fault 5 = .ok (.getfield 10, 3) := by decide +kernel
theorem dX8_fault_8 : decode cX8_fault 8 = .ok (.getfield 79, 3) := by decide +kernel
theorem dX8_fault_11 : decode cX8_fault 11 = .ok (.invokevirtual 125, 3) := by decide +kernel
theorem dX8_fault_14 : decode cX8_fault 14 = .ok (.ireturn, 1) := by decide +kernel
theorem dX8_judge_0 : decode cX8_judge 0 = .ok (.iload_n 1, 1) := by decide +kernel
theorem dX8_judge_1 : decode cX8_judge 1 = .ok (.ifCond .lt 8, 3) := by decide +kernel
theorem dX8_judge_4 : decode cX8_judge 4 = .ok (.iload_n 1, 1) := by decide +kernel
theorem dX8_judge_5 : decode cX8_judge 5 = .ok (.iconst 3, 1) := by decide +kernel
theorem dX8_judge_6 : decode cX8_judge 6 = .ok (.if_icmp .le 6, 3) := by decide +kernel
theorem dX8_judge_9 : decode cX8_judge 9 = .ok (.bipush (-2), 2) := by decide +kernel
theorem dX8_judge_11 : decode cX8_judge 11 = .ok (.ireturn, 1) := by decide +kernel
theorem dX8_judge_12 : decode cX8_judge 12 = .ok (.aload_n 0, 1) := by decide +kernel
theorem dX8_judge_13 : decode cX8_judge 13 = .ok (.invokevirtual 128, 3) := by decide +kernel
theorem dX8_judge_16 : decode cX8_judge 16 = .ok (.istore_n 2, 1) := by decide +kernel
theorem dX8_judge_17 : decode cX8_judge 17 = .ok (.iload_n 2, 1) := by decide +kernel
theorem dX8_judge_18 : decode cX8_judge 18 = .ok (.bipush (-5), 2) := by decide +kernel
theorem dX8_judge_20 : decode cX8_judge 20 = .ok (.if_icmp .eq 14, 3) := by decide +kernel
theorem dX8_judge_23 : decode cX8_judge 23 = .ok (.iload_n 2, 1) := by decide +kernel
theorem dX8_judge_24 : decode cX8_judge 24 = .ok (.bipush (-3), 2) := by decide +kernel
theorem dX8_judge_26 : decode cX8_judge 26 = .ok (.if_icmp .ne 10, 3) := by decide +kernel
theorem dX8_judge_29 : decode cX8_judge 29 = .ok (.iload_n 1, 1) := by decide +kernel
theorem dX8_judge_30 : decode cX8_judge 30 = .ok (.iconst 2, 1) := by decide +kernel
theorem dX8_judge_31 : decode cX8_judge 31 = .ok (.if_icmp .lt 5, 3) := by decide +kernel
theorem dX8_judge_34 : decode cX8_judge 34 = .ok (.iload_n 2, 1) := by decide +kernel
theorem dX8_judge_35 : decode cX8_judge 35 = .ok (.ireturn, 1) := by decide +kernel
theorem dX8_judge_36 : decode cX8_judge 36 = .ok (.iload_n 1, 1) := by decide +kernel
theorem dX8_judge_37 : decode cX8_judge 37 = .ok (.tableswitch 51 0 2 #[27, 35, 43], 27) := by decide +kernel
theorem dX8_judge_64 : decode cX8_judge 64 = .ok (.aload_n 0, 1) := by decide +kernel
theorem dX8_judge_65 : decode cX8_judge 65 = .ok (.getfield 45, 3) := by decide +kernel
theorem dX8_judge_68 : decode cX8_judge 68 = .ok (.getfield 132, 3) := by decide +kernel
theorem dX8_judge_71 : decode cX8_judge 71 = .ok (.ireturn, 1) := by decide +kernel
theorem dX8_judge_72 : decode cX8_judge 72 = .ok (.aload_n 0, 1) := by decide +kernel
theorem dX8_judge_73 : decode cX8_judge 73 = .ok (.getfield 45, 3) := by decide +kernel
theorem dX8_judge_76 : decode cX8_judge 76 = .ok (.getfield 135, 3) := by decide +kernel
theorem dX8_judge_79 : decode cX8_judge 79 = .ok (.ireturn, 1) := by decide +kernel
theorem dX8_judge_80 : decode cX8_judge 80 = .ok (.aload_n 0, 1) := by decide +kernel
theorem dX8_judge_81 : decode cX8_judge 81 = .ok (.getfield 45, 3) := by decide +kernel
theorem dX8_judge_84 : decode cX8_judge 84 = .ok (.getfield 138, 3) := by decide +kernel
theorem dX8_judge_87 : decode cX8_judge 87 = .ok (.ireturn, 1) := by decide +kernel
theorem dX8_judge_88 : decode cX8_judge 88 = .ok (.aload_n 0, 1) := by decide +kernel
theorem dX8_judge_89 : decode cX8_judge 89 = .ok (.getfield 45, 3) := by decide +kernel
theorem dX8_judge_92 : decode cX8_judge 92 = .ok (.getfield 141, 3) := by decide +kernel
theorem dX8_judge_95 : decode cX8_judge 95 = .ok (.ireturn, 1) := by decide +kernel
theorem dX8_used_0 : decode cX8_used 0 = .ok (.aload_n 0, 1) := by decide +kernel
theorem dX8_used_1 : decode cX8_used 1 = .ok (.invokevirtual 128, 3) := by decide +kernel
theorem dX8_used_4 : decode cX8_used 4 = .ok (.istore_n 2, 1) := by decide +kernel
theorem dX8_used_5 : decode cX8_used 5 = .ok (.iload_n 2, 1) := by decide +kernel
theorem dX8_used_6 : decode cX8_used 6 = .ok (.ifCond .eq 5, 3) := by decide +kernel
theorem dX8_used_9 : decode cX8_used 9 = .ok (.iload_n 2, 1) := by decide +kernel
theorem dX8_used_10 : decode cX8_used 10 = .ok (.ireturn, 1) := by decide +kernel
theorem dX8_used_11 : decode cX8_used 11 = .ok (.iload_n 1, 1) := by decide +kernel
theorem dX8_used_12 : decode cX8_used 12 = .ok (.ifCond .lt 14, 3) := by decide +kernel
theorem dX8_used_15 : decode cX8_used 15 = .ok (.iload_n 1, 1) := by decide +kernel
theorem dX8_used_16 : decode cX8_used 16 = .ok (.aload_n 0, 1) := by decide +kernel
theorem dX8_used_17 : decode cX8_used 17 = .ok (.getfield 27, 3) := by decide +kernel
theorem dX8_used_20 : decode cX8_used 20 = .ok (.getfield 122, 3) := by decide +kernel
theorem dX8_used_23 : decode cX8_used 23 = .ok (.if_icmp .lt 6, 3) := by decide +kernel
theorem dX8_used_26 : decode cX8_used 26 = .ok (.bipush (-2), 2) := by decide +kernel
theorem dX8_used_28 : decode cX8_used 28 = .ok (.ireturn, 1) := by decide +kernel
theorem dX8_used_29 : decode cX8_used 29 = .ok (.aload_n 0, 1) := by decide +kernel
theorem dX8_used_30 : decode cX8_used 30 = .ok (.getfield 45, 3) := by decide +kernel
theorem dX8_used_33 : decode cX8_used 33 = .ok (.getfield 144, 3) := by decide +kernel
theorem dX8_used_36 : decode cX8_used 36 = .ok (.iload_n 1, 1) := by decide +kernel
theorem dX8_used_37 : decode cX8_used 37 = .ok (.iaload, 1) := by decide +kernel
theorem dX8_used_38 : decode cX8_used 38 = .ok (.ireturn, 1) := by decide +kernel
theorem dX8_behind_0 : decode cX8_behind 0 = .ok (.aload_n 0, 1) := by decide +kernel
theorem dX8_behind_1 : decode cX8_behind 1 = .ok (.getfield 10, 3) := by decide +kernel
theorem dX8_behind_4 : decode cX8_behind 4 = .ok (.iload_n 1, 1) := by decide +kernel
theorem dX8_behind_5 : decode cX8_behind 5 = .ok (.invokevirtual 87, 3) := by decide +kernel
theorem dX8_behind_8 : decode cX8_behind 8 = .ok (.ifCond .ne 5, 3) := by decide +kernel
theorem dX8_behind_11 : decode cX8_behind 11 = .ok (.iconst (-1), 1) := by decide +kernel
theorem dX8_behind_12 : decode cX8_behind 12 = .ok (.ireturn, 1) := by decide +kernel
theorem dX8_behind_13 : decode cX8_behind 13 = .ok (.iload_n 2, 1) := by decide +kernel
theorem dX8_behind_14 : decode cX8_behind 14 = .ok (.ifCond .lt 8, 3) := by decide +kernel
theorem dX8_behind_17 : decode cX8_behind 17 = .ok (.iload_n 2, 1) := by decide +kernel
theorem dX8_behind_18 : decode cX8_behind 18 = .ok (.iconst 3, 1) := by decide +kernel
theorem dX8_behind_19 : decode cX8_behind 19 = .ok (.if_icmp .le 6, 3) := by decide +kernel
theorem dX8_behind_22 : decode cX8_behind 22 = .ok (.bipush (-2), 2) := by decide +kernel
theorem dX8_behind_24 : decode cX8_behind 24 = .ok (.ireturn, 1) := by decide +kernel
theorem dX8_behind_25 : decode cX8_behind 25 = .ok (.aload_n 0, 1) := by decide +kernel
theorem dX8_behind_26 : decode cX8_behind 26 = .ok (.invokevirtual 128, 3) := by decide +kernel
theorem dX8_behind_29 : decode cX8_behind 29 = .ok (.istore_n 3, 1) := by decide +kernel
theorem dX8_behind_30 : decode cX8_behind 30 = .ok (.iload_n 3, 1) := by decide +kernel
theorem dX8_behind_31 : decode cX8_behind 31 = .ok (.ifCond .eq 5, 3) := by decide +kernel
theorem dX8_behind_34 : decode cX8_behind 34 = .ok (.iload_n 3, 1) := by decide +kernel
theorem dX8_behind_35 : decode cX8_behind 35 = .ok (.ireturn, 1) := by decide +kernel
theorem dX8_behind_36 : decode cX8_behind 36 = .ok (.iload_n 2, 1) := by decide +kernel
theorem dX8_behind_37 : decode cX8_behind 37 = .ok (.tableswitch 57 0 2 #[27, 37, 47], 27) := by decide +kernel
theorem dX8_behind_64 : decode cX8_behind 64 = .ok (.aload_n 0, 1) := by decide +kernel
theorem dX8_behind_65 : decode cX8_behind 65 = .ok (.getfield 36, 3) := by decide +kernel
theorem dX8_behind_68 : decode cX8_behind 68 = .ok (.getfield 147, 3) := by decide +kernel
theorem dX8_behind_71 : decode cX8_behind 71 = .ok (.iload_n 1, 1) := by decide +kernel
theorem dX8_behind_72 : decode cX8_behind 72 = .ok (.iaload, 1) := by decide +kernel
theorem dX8_behind_73 : decode cX8_behind 73 = .ok (.ireturn, 1) := by decide +kernel
theorem dX8_behind_74 : decode cX8_behind 74 = .ok (.aload_n 0, 1) := by decide +kernel
theorem dX8_behind_75 : decode cX8_behind 75 = .ok (.getfield 45, 3) := by decide +kernel
theorem dX8_behind_78 : decode cX8_behind 78 = .ok (.getfield 150, 3) := by decide +kernel
theorem dX8_behind_81 : decode cX8_behind 81 = .ok (.iload_n 1, 1) := by decide +kernel
theorem dX8_behind_82 : decode cX8_behind 82 = .ok (.iaload, 1) := by decide +kernel
theorem dX8_behind_83 : decode cX8_behind 83 = .ok (.ireturn, 1) := by decide +kernel
theorem dX8_behind_84 : decode cX8_behind 84 = .ok (.aload_n 0, 1) := by decide +kernel
theorem dX8_behind_85 : decode cX8_behind 85 = .ok (.getfield 45, 3) := by decide +kernel
theorem dX8_behind_88 : decode cX8_behind 88 = .ok (.getfield 153, 3) := by decide +kernel
theorem dX8_behind_91 : decode cX8_behind 91 = .ok (.iload_n 1, 1) := by decide +kernel
theorem dX8_behind_92 : decode cX8_behind 92 = .ok (.iaload, 1) := by decide +kernel
theorem dX8_behind_93 : decode cX8_behind 93 = .ok (.ireturn, 1) := by decide +kernel
theorem dX8_behind_94 : decode cX8_behind 94 = .ok (.aload_n 0, 1) := by decide +kernel
theorem dX8_behind_95 : decode cX8_behind 95 = .ok (.getfield 45, 3) := by decide +kernel
theorem dX8_behind_98 : decode cX8_behind 98 = .ok (.getfield 156, 3) := by decide +kernel
theorem dX8_behind_101 : decode cX8_behind 101 = .ok (.iload_n 1, 1) := by decide +kernel
theorem dX8_behind_102 : decode cX8_behind 102 = .ok (.iaload, 1) := by decide +kernel
theorem dX8_behind_103 : decode cX8_behind 103 = .ok (.ireturn, 1) := by decide +kernel
theorem dX8_done_0 : decode cX8_done 0 = .ok (.aload_n 0, 1) := by decide +kernel
theorem dX8_done_1 : decode cX8_done 1 = .ok (.invokevirtual 128, 3) := by decide +kernel
theorem dX8_done_4 : decode cX8_done 4 = .ok (.istore_n 1, 1) := by decide +kernel
theorem dX8_done_5 : decode cX8_done 5 = .ok (.iload_n 1, 1) := by decide +kernel
theorem dX8_done_6 : decode cX8_done 6 = .ok (.ifCond .eq 5, 3) := by decide +kernel
theorem dX8_done_9 : decode cX8_done 9 = .ok (.iload_n 1, 1) := by decide +kernel
theorem dX8_done_10 : decode cX8_done 10 = .ok (.ireturn, 1) := by decide +kernel
theorem dX8_done_11 : decode cX8_done 11 = .ok (.aload_n 0, 1) := by decide +kernel
theorem dX8_done_12 : decode cX8_done 12 = .ok (.getfield 36, 3) := by decide +kernel
theorem dX8_done_15 : decode cX8_done 15 = .ok (.getfield 147, 3) := by decide +kernel
theorem dX8_done_18 : decode cX8_done 18 = .ok (.iconst 0, 1) := by decide +kernel
theorem dX8_done_19 : decode cX8_done 19 = .ok (.aload_n 0, 1) := by decide +kernel
theorem dX8_done_20 : decode cX8_done 20 = .ok (.getfield 10, 3) := by decide +kernel
theorem dX8_done_23 : decode cX8_done 23 = .ok (.getfield 159, 3) := by decide +kernel
theorem dX8_done_26 : decode cX8_done 26 = .ok (.iconst 0, 1) := by decide +kernel
theorem dX8_done_27 : decode cX8_done 27 = .ok (.bipush 7, 2) := by decide +kernel
theorem dX8_done_29 : decode cX8_done 29 = .ok (.invokestatic 160, 3) := by decide +kernel
theorem dX8_done_32 : decode cX8_done 32 = .ok (.aload_n 0, 1) := by decide +kernel
theorem dX8_done_33 : decode cX8_done 33 = .ok (.getfield 45, 3) := by decide +kernel
theorem dX8_done_36 : decode cX8_done 36 = .ok (.getfield 150, 3) := by decide +kernel
theorem dX8_done_39 : decode cX8_done 39 = .ok (.iconst 0, 1) := by decide +kernel
theorem dX8_done_40 : decode cX8_done 40 = .ok (.aload_n 0, 1) := by decide +kernel
theorem dX8_done_41 : decode cX8_done 41 = .ok (.getfield 10, 3) := by decide +kernel
theorem dX8_done_44 : decode cX8_done 44 = .ok (.getfield 166, 3) := by decide +kernel
theorem dX8_done_47 : decode cX8_done 47 = .ok (.iconst 0, 1) := by decide +kernel
theorem dX8_done_48 : decode cX8_done 48 = .ok (.bipush 7, 2) := by decide +kernel
theorem dX8_done_50 : decode cX8_done 50 = .ok (.invokestatic 160, 3) := by decide +kernel
theorem dX8_done_53 : decode cX8_done 53 = .ok (.aload_n 0, 1) := by decide +kernel
theorem dX8_done_54 : decode cX8_done 54 = .ok (.getfield 27, 3) := by decide +kernel
theorem dX8_done_57 : decode cX8_done 57 = .ok (.getfield 122, 3) := by decide +kernel
theorem dX8_done_60 : decode cX8_done 60 = .ok (.istore_n 2, 1) := by decide +kernel
theorem dX8_done_61 : decode cX8_done 61 = .ok (.aload_n 0, 1) := by decide +kernel
theorem dX8_done_62 : decode cX8_done 62 = .ok (.getfield 27, 3) := by decide +kernel
theorem dX8_done_65 : decode cX8_done 65 = .ok (.iconst 0, 1) := by decide +kernel
theorem dX8_done_66 : decode cX8_done 66 = .ok (.putfield 122, 3) := by decide +kernel
theorem dX8_done_69 : decode cX8_done 69 = .ok (.iload_n 2, 1) := by decide +kernel
theorem dX8_done_70 : decode cX8_done 70 = .ok (.ireturn, 1) := by decide +kernel
theorem dX8_state_0 : decode cX8_state 0 = .ok (.aload_n 0, 1) := by decide +kernel
theorem dX8_state_1 : decode cX8_state 1 = .ok (.getfield 10, 3) := by decide +kernel
theorem dX8_state_4 : decode cX8_state 4 = .ok (.iload_n 1, 1) := by decide +kernel
theorem dX8_state_5 : decode cX8_state 5 = .ok (.invokevirtual 87, 3) := by decide +kernel
theorem dX8_state_8 : decode cX8_state 8 = .ok (.ifCond .ne 5, 3) := by decide +kernel
theorem dX8_state_11 : decode cX8_state 11 = .ok (.iconst (-1), 1) := by decide +kernel
theorem dX8_state_12 : decode cX8_state 12 = .ok (.ireturn, 1) := by decide +kernel
theorem dX8_state_13 : decode cX8_state 13 = .ok (.iload_n 2, 1) := by decide +kernel
theorem dX8_state_14 : decode cX8_state 14 = .ok (.ifCond .lt 8, 3) := by decide +kernel
theorem dX8_state_17 : decode cX8_state 17 = .ok (.iload_n 2, 1) := by decide +kernel
theorem dX8_state_18 : decode cX8_state 18 = .ok (.iconst 1, 1) := by decide +kernel
theorem dX8_state_19 : decode cX8_state 19 = .ok (.if_icmp .le 6, 3) := by decide +kernel
theorem dX8_state_22 : decode cX8_state 22 = .ok (.bipush (-2), 2) := by decide +kernel
theorem dX8_state_24 : decode cX8_state 24 = .ok (.ireturn, 1) := by decide +kernel
theorem dX8_state_25 : decode cX8_state 25 = .ok (.aload_n 0, 1) := by decide +kernel
theorem dX8_state_26 : decode cX8_state 26 = .ok (.getfield 10, 3) := by decide +kernel
theorem dX8_state_29 : decode cX8_state 29 = .ok (.iload_n 1, 1) := by decide +kernel
theorem dX8_state_30 : decode cX8_state 30 = .ok (.iload_n 2, 1) := by decide +kernel
theorem dX8_state_31 : decode cX8_state 31 = .ok (.ifCond .ne 7, 3) := by decide +kernel
theorem dX8_state_34 : decode cX8_state 34 = .ok (.iconst 3, 1) := by decide +kernel
theorem dX8_state_35 : decode cX8_state 35 = .ok (.goto 4, 3) := by decide +kernel
theorem dX8_state_38 : decode cX8_state 38 = .ok (.iconst 4, 1) := by decide +kernel
theorem dX8_state_39 : decode cX8_state 39 = .ok (.invokevirtual 95, 3) := by decide +kernel
theorem dX8_state_42 : decode cX8_state 42 = .ok (.ireturn, 1) := by decide +kernel
theorem dX8_eats_0 : decode cX8_eats 0 = .ok (.aload_n 0, 1) := by decide +kernel
theorem dX8_eats_1 : decode cX8_eats 1 = .ok (.getfield 10, 3) := by decide +kernel
theorem dX8_eats_4 : decode cX8_eats 4 = .ok (.iload_n 1, 1) := by decide +kernel
theorem dX8_eats_5 : decode cX8_eats 5 = .ok (.invokevirtual 116, 3) := by decide +kernel
theorem dX8_eats_8 : decode cX8_eats 8 = .ok (.ifCond .ne 5, 3) := by decide +kernel
theorem dX8_eats_11 : decode cX8_eats 11 = .ok (.iconst (-1), 1) := by decide +kernel
theorem dX8_eats_12 : decode cX8_eats 12 = .ok (.ireturn, 1) := by decide +kernel
theorem dX8_eats_13 : decode cX8_eats 13 = .ok (.aload_n 0, 1) := by decide +kernel
theorem dX8_eats_14 : decode cX8_eats 14 = .ok (.getfield 36, 3) := by decide +kernel
theorem dX8_eats_17 : decode cX8_eats 17 = .ok (.invokevirtual 167, 3) := by decide +kernel
theorem dX8_eats_20 : decode cX8_eats 20 = .ok (.aload_n 0, 1) := by decide +kernel
theorem dX8_eats_21 : decode cX8_eats 21 = .ok (.getfield 36, 3) := by decide +kernel
theorem dX8_eats_24 : decode cX8_eats 24 = .ok (.iload_n 1, 1) := by decide +kernel
theorem dX8_eats_25 : decode cX8_eats 25 = .ok (.invokevirtual 170, 3) := by decide +kernel
theorem dX8_eats_28 : decode cX8_eats 28 = .ok (.ireturn, 1) := by decide +kernel
theorem dX8_seen_0 : decode cX8_seen 0 = .ok (.aload_n 0, 1) := by decide +kernel
theorem dX8_seen_1 : decode cX8_seen 1 = .ok (.getfield 10, 3) := by decide +kernel
theorem dX8_seen_4 : decode cX8_seen 4 = .ok (.iload_n 1, 1) := by decide +kernel
theorem dX8_seen_5 : decode cX8_seen 5 = .ok (.invokevirtual 87, 3) := by decide +kernel
theorem dX8_seen_8 : decode cX8_seen 8 = .ok (.ifCond .ne 5, 3) := by decide +kernel
theorem dX8_seen_11 : decode cX8_seen 11 = .ok (.iconst (-1), 1) := by decide +kernel
theorem dX8_seen_12 : decode cX8_seen 12 = .ok (.ireturn, 1) := by decide +kernel
theorem dX8_seen_13 : decode cX8_seen 13 = .ok (.iload_n 2, 1) := by decide +kernel
theorem dX8_seen_14 : decode cX8_seen 14 = .ok (.ifCond .lt 9, 3) := by decide +kernel
theorem dX8_seen_17 : decode cX8_seen 17 = .ok (.iload_n 2, 1) := by decide +kernel
theorem dX8_seen_18 : decode cX8_seen 18 = .ok (.bipush 9, 2) := by decide +kernel
theorem dX8_seen_20 : decode cX8_seen 20 = .ok (.if_icmp .le 6, 3) := by decide +kernel
theorem dX8_seen_23 : decode cX8_seen 23 = .ok (.bipush (-2), 2) := by decide +kernel
theorem dX8_seen_25 : decode cX8_seen 25 = .ok (.ireturn, 1) := by decide +kernel
theorem dX8_seen_26 : decode cX8_seen 26 = .ok (.aload_n 0, 1) := by decide +kernel
theorem dX8_seen_27 : decode cX8_seen 27 = .ok (.getfield 10, 3) := by decide +kernel
theorem dX8_seen_30 : decode cX8_seen 30 = .ok (.getfield 173, 3) := by decide +kernel
theorem dX8_seen_33 : decode cX8_seen 33 = .ok (.iload_n 1, 1) := by decide +kernel
theorem dX8_seen_34 : decode cX8_seen 34 = .ok (.iload_n 2, 1) := by decide +kernel
theorem dX8_seen_35 : decode cX8_seen 35 = .ok (.iastore, 1) := by decide +kernel
theorem dX8_seen_36 : decode cX8_seen 36 = .ok (.aload_n 0, 1) := by decide +kernel
theorem dX8_seen_37 : decode cX8_seen 37 = .ok (.getfield 10, 3) := by decide +kernel
theorem dX8_seen_40 : decode cX8_seen 40 = .ok (.invokevirtual 176, 3) := by decide +kernel
theorem dX8_seen_43 : decode cX8_seen 43 = .ok (.invokestatic 110, 3) := by decide +kernel
theorem dX8_seen_46 : decode cX8_seen 46 = .ok (.ireturn, 1) := by decide +kernel
theorem dX8_forget_0 : decode cX8_forget 0 = .ok (.aload_n 0, 1) := by decide +kernel
theorem dX8_forget_1 : decode cX8_forget 1 = .ok (.getfield 10, 3) := by decide +kernel
theorem dX8_forget_4 : decode cX8_forget 4 = .ok (.invokevirtual 176, 3) := by decide +kernel
theorem dX8_forget_7 : decode cX8_forget 7 = .ok (.invokestatic 110, 3) := by decide +kernel
theorem dX8_forget_10 : decode cX8_forget 10 = .ok (.istore_n 1, 1) := by decide +kernel
theorem dX8_forget_11 : decode cX8_forget 11 = .ok (.aload_n 0, 1) := by decide +kernel
theorem dX8_forget_12 : decode cX8_forget 12 = .ok (.getfield 10, 3) := by decide +kernel
theorem dX8_forget_15 : decode cX8_forget 15 = .ok (.getfield 173, 3) := by decide +kernel
theorem dX8_forget_18 : decode cX8_forget 18 = .ok (.bipush (-6), 2) := by decide +kernel
theorem dX8_forget_20 : decode cX8_forget 20 = .ok (.invokestatic 179, 3) := by decide +kernel
theorem dX8_forget_23 : decode cX8_forget 23 = .ok (.iload_n 1, 1) := by decide +kernel
theorem dX8_forget_24 : decode cX8_forget 24 = .ok (.ireturn, 1) := by decide +kernel
theorem dX8_rows_0 : decode cX8_rows 0 = .ok (.iload_n 1, 1) := by decide +kernel
theorem dX8_rows_1 : decode cX8_rows 1 = .ok (.invokestatic 185, 3) := by decide +kernel
theorem dX8_rows_4 : decode cX8_rows 4 = .ok (.ifCond .eq 13, 3) := by decide +kernel
theorem dX8_rows_7 : decode cX8_rows 7 = .ok (.iload_n 2, 1) := by decide +kernel
theorem dX8_rows_8 : decode cX8_rows 8 = .ok (.ifCond .lt 9, 3) := by decide +kernel
theorem dX8_rows_11 : decode cX8_rows 11 = .ok (.iload_n 2, 1) := by decide +kernel
theorem dX8_rows_12 : decode cX8_rows 12 = .ok (.bipush 9, 2) := by decide +kernel
theorem dX8_rows_14 : decode cX8_rows 14 = .ok (.if_icmp .le 6, 3) := by decide +kernel
theorem dX8_rows_17 : decode cX8_rows 17 = .ok (.bipush (-2), 2) := by decide +kernel
theorem dX8_rows_19 : decode cX8_rows 19 = .ok (.ireturn, 1) := by decide +kernel
theorem dX8_rows_20 : decode cX8_rows 20 = .ok (.aload_n 0, 1) := by decide +kernel
theorem dX8_rows_21 : decode cX8_rows 21 = .ok (.getfield 52, 3) := by decide +kernel
theorem dX8_rows_24 : decode cX8_rows 24 = .ok (.aload_n 0, 1) := by decide +kernel
theorem dX8_rows_25 : decode cX8_rows 25 = .ok (.getfield 10, 3) := by decide +kernel
theorem dX8_rows_28 : decode cX8_rows 28 = .ok (.getfield 173, 3) := by decide +kernel
theorem dX8_rows_31 : decode cX8_rows 31 = .ok (.iload_n 1, 1) := by decide +kernel
theorem dX8_rows_32 : decode cX8_rows 32 = .ok (.invokevirtual 188, 3) := by decide +kernel
theorem dX8_rows_35 : decode cX8_rows 35 = .ok (.iload_n 2, 1) := by decide +kernel
theorem dX8_rows_36 : decode cX8_rows 36 = .ok (.tableswitch 64 0 3 #[32, 40, 48, 56], 32) := by decide +kernel
theorem dX8_rows_68 : decode cX8_rows 68 = .ok (.aload_n 0, 1) := by decide +kernel
theorem dX8_rows_69 : decode cX8_rows 69 = .ok (.getfield 52, 3) := by decide +kernel
theorem dX8_rows_72 : decode cX8_rows 72 = .ok (.getfield 191, 3) := by decide +kernel
theorem dX8_rows_75 : decode cX8_rows 75 = .ok (.ireturn, 1) := by decide +kernel
theorem dX8_rows_76 : decode cX8_rows 76 = .ok (.aload_n 0, 1) := by decide +kernel
theorem dX8_rows_77 : decode cX8_rows 77 = .ok (.getfield 52, 3) := by decide +kernel
theorem dX8_rows_80 : decode cX8_rows 80 = .ok (.getfield 192, 3) := by decide +kernel
theorem dX8_rows_83 : decode cX8_rows 83 = .ok (.ireturn, 1) := by decide +kernel
theorem dX8_rows_84 : decode cX8_rows 84 = .ok (.aload_n 0, 1) := by decide +kernel
theorem dX8_rows_85 : decode cX8_rows 85 = .ok (.getfield 52, 3) := by decide +kernel
theorem dX8_rows_88 : decode cX8_rows 88 = .ok (.getfield 195, 3) := by decide +kernel
theorem dX8_rows_91 : decode cX8_rows 91 = .ok (.ireturn, 1) := by decide +kernel
theorem dX8_rows_92 : decode cX8_rows 92 = .ok (.aload_n 0, 1) := by decide +kernel
theorem dX8_rows_93 : decode cX8_rows 93 = .ok (.getfield 52, 3) := by decide +kernel
theorem dX8_rows_96 : decode cX8_rows 96 = .ok (.getfield 198, 3) := by decide +kernel
theorem dX8_rows_99 : decode cX8_rows 99 = .ok (.ireturn, 1) := by decide +kernel
theorem dX8_rows_100 : decode cX8_rows 100 = .ok (.aload_n 0, 1) := by decide +kernel
theorem dX8_rows_101 : decode cX8_rows 101 = .ok (.getfield 52, 3) := by decide +kernel
theorem dX8_rows_104 : decode cX8_rows 104 = .ok (.iload_n 2, 1) := by decide +kernel
theorem dX8_rows_105 : decode cX8_rows 105 = .ok (.iconst 4, 1) := by decide +kernel
theorem dX8_rows_106 : decode cX8_rows 106 = .ok (.isub, 1) := by decide +kernel
theorem dX8_rows_107 : decode cX8_rows 107 = .ok (.invokevirtual 201, 3) := by decide +kernel
theorem dX8_rows_110 : decode cX8_rows 110 = .ok (.ireturn, 1) := by decide +kernel
theorem dX8_cup_0 : decode cX8_cup 0 = .ok (.aload_n 0, 1) := by decide +kernel
theorem dX8_cup_1 : decode cX8_cup 1 = .ok (.getfield 10, 3) := by decide +kernel
theorem dX8_cup_4 : decode cX8_cup 4 = .ok (.iload_n 1, 1) := by decide +kernel
theorem dX8_cup_5 : decode cX8_cup 5 = .ok (.invokevirtual 87, 3) := by decide +kernel
theorem dX8_cup_8 : decode cX8_cup 8 = .ok (.ifCond .ne 5, 3) := by decide +kernel
theorem dX8_cup_11 : decode cX8_cup 11 = .ok (.iconst (-1), 1) := by decide +kernel
theorem dX8_cup_12 : decode cX8_cup 12 = .ok (.ireturn, 1) := by decide +kernel
theorem dX8_cup_13 : decode cX8_cup 13 = .ok (.iload_n 2, 1) := by decide +kernel
theorem dX8_cup_14 : decode cX8_cup 14 = .ok (.invokestatic 185, 3) := by decide +kernel
theorem dX8_cup_17 : decode cX8_cup 17 = .ok (.ifCond .ne 6, 3) := by decide +kernel
theorem dX8_cup_20 : decode cX8_cup 20 = .ok (.bipush (-2), 2) := by decide +kernel
theorem dX8_cup_22 : decode cX8_cup 22 = .ok (.ireturn, 1) := by decide +kernel
theorem dX8_cup_23 : decode cX8_cup 23 = .ok (.aload_n 0, 1) := by decide +kernel
theorem dX8_cup_24 : decode cX8_cup 24 = .ok (.getfield 52, 3) := by decide +kernel
theorem dX8_cup_27 : decode cX8_cup 27 = .ok (.aload_n 0, 1) := by decide +kernel
theorem dX8_cup_28 : decode cX8_cup 28 = .ok (.getfield 10, 3) := by decide +kernel
theorem dX8_cup_31 : decode cX8_cup 31 = .ok (.getfield 173, 3) := by decide +kernel
theorem dX8_cup_34 : decode cX8_cup 34 = .ok (.iload_n 2, 1) := by decide +kernel
theorem dX8_cup_35 : decode cX8_cup 35 = .ok (.invokevirtual 188, 3) := by decide +kernel
theorem dX8_cup_38 : decode cX8_cup 38 = .ok (.aload_n 0, 1) := by decide +kernel
theorem dX8_cup_39 : decode cX8_cup 39 = .ok (.getfield 52, 3) := by decide +kernel
theorem dX8_cup_42 : decode cX8_cup 42 = .ok (.getfield 204, 3) := by decide +kernel
theorem dX8_cup_45 : decode cX8_cup 45 = .ok (.iload_n 1, 1) := by decide +kernel
theorem dX8_cup_46 : decode cX8_cup 46 = .ok (.iaload, 1) := by decide +kernel
theorem dX8_cup_47 : decode cX8_cup 47 = .ok (.ireturn, 1) := by decide +kernel
theorem dX8_look_0 : decode cX8_look 0 = .ok (.iload_n 1, 1) := by decide +kernel
theorem dX8_look_1 : decode cX8_look 1 = .ok (.invokestatic 185, 3) := by decide +kernel
theorem dX8_look_4 : decode cX8_look 4 = .ok (.ifCond .eq 12, 3) := by decide +kernel
theorem dX8_look_7 : decode cX8_look 7 = .ok (.iload_n 2, 1) := by decide +kernel
theorem dX8_look_8 : decode cX8_look 8 = .ok (.ifCond .lt 8, 3) := by decide +kernel
theorem dX8_look_11 : decode cX8_look 11 = .ok (.iload_n 2, 1) := by decide +kernel
theorem dX8_look_12 : decode cX8_look 12 = .ok (.iconst 1, 1) := by decide +kernel
theorem dX8_look_13 : decode cX8_look 13 = .ok (.if_icmp .le 6, 3) := by decide +kernel
theorem dX8_look_16 : decode cX8_look 16 = .ok (.bipush (-2), 2) := by decide +kernel
theorem dX8_look_18 : decode cX8_look 18 = .ok (.ireturn, 1) := by decide +kernel
theorem dX8_look_19 : decode cX8_look 19 = .ok (.aload_n 0, 1) := by decide +kernel
theorem dX8_look_20 : decode cX8_look 20 = .ok (.getfield 52, 3) := by decide +kernel
theorem dX8_look_23 : decode cX8_look 23 = .ok (.aload_n 0, 1) := by decide +kernel
theorem dX8_look_24 : decode cX8_look 24 = .ok (.getfield 10, 3) := by decide +kernel
theorem dX8_look_27 : decode cX8_look 27 = .ok (.getfield 173, 3) := by decide +kernel
theorem dX8_look_30 : decode cX8_look 30 = .ok (.iload_n 1, 1) := by decide +kernel
theorem dX8_look_31 : decode cX8_look 31 = .ok (.invokevirtual 188, 3) := by decide +kernel
theorem dX8_look_34 : decode cX8_look 34 = .ok (.aload_n 0, 1) := by decide +kernel
theorem dX8_look_35 : decode cX8_look 35 = .ok (.getfield 52, 3) := by decide +kernel
theorem dX8_look_38 : decode cX8_look 38 = .ok (.invokevirtual 207, 3) := by decide +kernel
theorem dX8_look_41 : decode cX8_look 41 = .ok (.istore_n 3, 1) := by decide +kernel
theorem dX8_look_42 : decode cX8_look 42 = .ok (.iload_n 3, 1) := by decide +kernel
theorem dX8_look_43 : decode cX8_look 43 = .ok (.bipush (-6), 2) := by decide +kernel
theorem dX8_look_45 : decode cX8_look 45 = .ok (.if_icmp .eq 7, 3) := by decide +kernel
theorem dX8_look_48 : decode cX8_look 48 = .ok (.iload_n 2, 1) := by decide +kernel
theorem dX8_look_49 : decode cX8_look 49 = .ok (.ifCond .ne 5, 3) := by decide +kernel
theorem dX8_look_52 : decode cX8_look 52 = .ok (.iload_n 3, 1) := by decide +kernel
theorem dX8_look_53 : decode cX8_look 53 = .ok (.ireturn, 1) := by decide +kernel
theorem dX8_look_54 : decode cX8_look 54 = .ok (.aload_n 0, 1) := by decide +kernel
theorem dX8_look_55 : decode cX8_look 55 = .ok (.getfield 52, 3) := by decide +kernel
theorem dX8_look_58 : decode cX8_look 58 = .ok (.iload_n 3, 1) := by decide +kernel
theorem dX8_look_59 : decode cX8_look 59 = .ok (.invokevirtual 210, 3) := by decide +kernel
theorem dX8_look_62 : decode cX8_look 62 = .ok (.ireturn, 1) := by decide +kernel
theorem dX8_belief_0 : decode cX8_belief 0 = .ok (.iload_n 2, 1) := by decide +kernel
theorem dX8_belief_1 : decode cX8_belief 1 = .ok (.iconst (-1), 1) := by decide +kernel
theorem dX8_belief_2 : decode cX8_belief 2 = .ok (.if_icmp .eq 18, 3) := by decide +kernel
theorem dX8_belief_5 : decode cX8_belief 5 = .ok (.aload_n 0, 1) := by decide +kernel
theorem dX8_belief_6 : decode cX8_belief 6 = .ok (.getfield 10, 3) := by decide +kernel
theorem dX8_belief_9 : decode cX8_belief 9 = .ok (.iload_n 2, 1) := by decide +kernel
theorem dX8_belief_10 : decode cX8_belief 10 = .ok (.invokevirtual 116, 3) := by decide +kernel
theorem dX8_belief_13 : decode cX8_belief 13 = .ok (.ifCond .ne 7, 3) := by decide +kernel
theorem dX8_belief_16 : decode cX8_belief 16 = .ok (.ldc2_w 213, 3) := by decide +kernel
theorem dX8_belief_19 : decode cX8_belief 19 = .ok (.lreturn, 1) := by decide +kernel
theorem dX8_belief_20 : decode cX8_belief 20 = .ok (.iload_n 1, 1) := by decide +kernel
theorem dX8_belief_21 : decode cX8_belief 21 = .ok (.invokestatic 185, 3) := by decide +kernel
theorem dX8_belief_24 : decode cX8_belief 24 = .ok (.ifCond .eq 12, 3) := by decide +kernel
theorem dX8_belief_27 : decode cX8_belief 27 = .ok (.iload_n 3, 1) := by decide +kernel
theorem dX8_belief_28 : decode cX8_belief 28 = .ok (.ifCond .lt 8, 3) := by decide +kernel
theorem dX8_belief_31 : decode cX8_belief 31 = .ok (.iload_n 3, 1) := by decide +kernel
theorem dX8_belief_32 : decode cX8_belief 32 = .ok (.iconst 1, 1) := by decide +kernel
theorem dX8_belief_33 : decode cX8_belief 33 = .ok (.if_icmp .le 7, 3) := by decide +kernel
theorem dX8_belief_36 : decode cX8_belief 36 = .ok (.ldc2_w 215, 3) := by decide +kernel
theorem dX8_belief_39 : decode cX8_belief 39 = .ok (.lreturn, 1) := by decide +kernel
theorem dX8_belief_40 : decode cX8_belief 40 = .ok (.aload_n 0, 1) := by decide +kernel
theorem dX8_belief_41 : decode cX8_belief 41 = .ok (.getfield 10, 3) := by decide +kernel
theorem dX8_belief_44 : decode cX8_belief 44 = .ok (.getfield 107, 3) := by decide +kernel
theorem dX8_belief_47 : decode cX8_belief 47 = .ok (.ifCond .ne 7, 3) := by decide +kernel
theorem dX8_belief_50 : decode cX8_belief 50 = .ok (.ldc2_w 217, 3) := by decide +kernel
theorem dX8_belief_53 : decode cX8_belief 53 = .ok (.lreturn, 1) := by decide +kernel
theorem dX8_belief_54 : decode cX8_belief 54 = .ok (.aload_n 0, 1) := by decide +kernel
theorem dX8_belief_55 : decode cX8_belief 55 = .ok (.getfield 59, 3) := by decide +kernel
theorem dX8_belief_58 : decode cX8_belief 58 = .ok (.iload_n 1, 1) := by decide +kernel
theorem dX8_belief_59 : decode cX8_belief 59 = .ok (.iload_n 2, 1) := by decide +kernel
theorem dX8_belief_60 : decode cX8_belief 60 = .ok (.invokevirtual 219, 3) := by decide +kernel
theorem dX8_belief_63 : decode cX8_belief 63 = .ok (.iload_n 3, 1) := by decide +kernel
theorem dX8_belief_64 : decode cX8_belief 64 = .ok (.ifCond .ne 13, 3) := by decide +kernel
theorem dX8_belief_67 : decode cX8_belief 67 = .ok (.aload_n 0, 1) := by decide +kernel
theorem dX8_belief_68 : decode cX8_belief 68 = .ok (.getfield 59, 3) := by decide +kernel
theorem dX8_belief_71 : decode cX8_belief 71 = .ok (.getfield 223, 3) := by decide +kernel
theorem dX8_belief_74 : decode cX8_belief 74 = .ok (.goto 10, 3) := by decide +kernel
theorem dX8_belief_77 : decode cX8_belief 77 = .ok (.aload_n 0, 1) := by decide +kernel
theorem dX8_belief_78 : decode cX8_belief 78 = .ok (.getfield 59, 3) := by decide +kernel
theorem dX8_belief_81 : decode cX8_belief 81 = .ok (.getfield 227, 3) := by decide +kernel
theorem dX8_belief_84 : decode cX8_belief 84 = .ok (.lreturn, 1) := by decide +kernel
theorem dX8_alike_0 : decode cX8_alike 0 = .ok (.aload_n 0, 1) := by decide +kernel
theorem dX8_alike_1 : decode cX8_alike 1 = .ok (.getfield 36, 3) := by decide +kernel
theorem dX8_alike_4 : decode cX8_alike 4 = .ok (.invokevirtual 167, 3) := by decide +kernel
theorem dX8_alike_7 : decode cX8_alike 7 = .ok (.iload_n 1, 1) := by decide +kernel
theorem dX8_alike_8 : decode cX8_alike 8 = .ok (.iconst (-1), 1) := by decide +kernel
theorem dX8_alike_9 : decode cX8_alike 9 = .ok (.if_icmp .ne 13, 3) := by decide +kernel
theorem dX8_alike_12 : decode cX8_alike 12 = .ok (.aload_n 0, 1) := by decide +kernel
theorem dX8_alike_13 : decode cX8_alike 13 = .ok (.getfield 75, 3) := by decide +kernel
theorem dX8_alike_16 : decode cX8_alike 16 = .ok (.invokevirtual 230, 3) := by decide +kernel
theorem dX8_alike_19 : decode cX8_alike 19 = .ok (.goto 11, 3) := by decide +kernel
theorem dX8_alike_22 : decode cX8_alike 22 = .ok (.aload_n 0, 1) := by decide +kernel
theorem dX8_alike_23 : decode cX8_alike 23 = .ok (.getfield 75, 3) := by decide +kernel
theorem dX8_alike_26 : decode cX8_alike 26 = .ok (.iload_n 1, 1) := by decide +kernel
theorem dX8_alike_27 : decode cX8_alike 27 = .ok (.invokevirtual 233, 3) := by decide +kernel
theorem dX8_alike_30 : decode cX8_alike 30 = .ok (.ireturn, 1) := by decide +kernel
theorem dX8_lay_0 : decode cX8_lay 0 = .ok (.iload_n 1, 1) := by decide +kernel
theorem dX8_lay_1 : decode cX8_lay 1 = .ok (.ifCond .lt 8, 3) := by decide +kernel
theorem dX8_lay_4 : decode cX8_lay 4 = .ok (.iload_n 1, 1) := by decide +kernel
theorem dX8_lay_5 : decode cX8_lay 5 = .ok (.iconst 1, 1) := by decide +kernel
theorem dX8_lay_6 : decode cX8_lay 6 = .ok (.if_icmp .le 6, 3) := by decide +kernel
theorem dX8_lay_9 : decode cX8_lay 9 = .ok (.bipush (-2), 2) := by decide +kernel
theorem dX8_lay_11 : decode cX8_lay 11 = .ok (.ireturn, 1) := by decide +kernel
theorem dX8_lay_12 : decode cX8_lay 12 = .ok (.aload_n 0, 1) := by decide +kernel
theorem dX8_lay_13 : decode cX8_lay 13 = .ok (.getfield 36, 3) := by decide +kernel
theorem dX8_lay_16 : decode cX8_lay 16 = .ok (.invokevirtual 167, 3) := by decide +kernel
theorem dX8_lay_19 : decode cX8_lay 19 = .ok (.aload_n 0, 1) := by decide +kernel
theorem dX8_lay_20 : decode cX8_lay 20 = .ok (.getfield 75, 3) := by decide +kernel
theorem dX8_lay_23 : decode cX8_lay 23 = .ok (.invokevirtual 234, 3) := by decide +kernel
theorem dX8_lay_26 : decode cX8_lay 26 = .ok (.istore_n 2, 1) := by decide +kernel
theorem dX8_lay_27 : decode cX8_lay 27 = .ok (.iload_n 2, 1) := by decide +kernel
theorem dX8_lay_28 : decode cX8_lay 28 = .ok (.bipush (-6), 2) := by decide +kernel
theorem dX8_lay_30 : decode cX8_lay 30 = .ok (.if_icmp .eq 8, 3) := by decide +kernel
theorem dX8_lay_33 : decode cX8_lay 33 = .ok (.iload_n 1, 1) := by decide +kernel
theorem dX8_lay_34 : decode cX8_lay 34 = .ok (.iconst 1, 1) := by decide +kernel
theorem dX8_lay_35 : decode cX8_lay 35 = .ok (.if_icmp .ne 5, 3) := by decide +kernel
theorem dX8_lay_38 : decode cX8_lay 38 = .ok (.iload_n 2, 1) := by decide +kernel
theorem dX8_lay_39 : decode cX8_lay 39 = .ok (.ireturn, 1) := by decide +kernel
theorem dX8_lay_40 : decode cX8_lay 40 = .ok (.iload_n 2, 1) := by decide +kernel
theorem dX8_lay_41 : decode cX8_lay 41 = .ok (.invokestatic 110, 3) := by decide +kernel
theorem dX8_lay_44 : decode cX8_lay 44 = .ok (.ireturn, 1) := by decide +kernel
theorem dX8_hide_0 : decode cX8_hide 0 = .ok (.aload_n 0, 1) := by decide +kernel
theorem dX8_hide_1 : decode cX8_hide 1 = .ok (.invokevirtual 128, 3) := by decide +kernel
theorem dX8_hide_4 : decode cX8_hide 4 = .ok (.istore_n 1, 1) := by decide +kernel
theorem dX8_hide_5 : decode cX8_hide 5 = .ok (.iload_n 1, 1) := by decide +kernel
theorem dX8_hide_6 : decode cX8_hide 6 = .ok (.ifCond .eq 5, 3) := by decide +kernel
theorem dX8_hide_9 : decode cX8_hide 9 = .ok (.iload_n 1, 1) := by decide +kernel
theorem dX8_hide_10 : decode cX8_hide 10 = .ok (.ireturn, 1) := by decide +kernel
theorem dX8_hide_11 : decode cX8_hide 11 = .ok (.iconst 0, 1) := by decide +kernel
theorem dX8_hide_12 : decode cX8_hide 12 = .ok (.istore_n 2, 1) := by decide +kernel
theorem dX8_hide_13 : decode cX8_hide 13 = .ok (.iconst 0, 1) := by decide +kernel
theorem dX8_hide_14 : decode cX8_hide 14 = .ok (.istore_n 3, 1) := by decide +kernel
theorem dX8_hide_15 : decode cX8_hide 15 = .ok (.iload_n 3, 1) := by decide +kernel
theorem dX8_hide_16 : decode cX8_hide 16 = .ok (.aload_n 0, 1) := by decide +kernel
theorem dX8_hide_17 : decode cX8_hide 17 = .ok (.getfield 10, 3) := by decide +kernel
theorem dX8_hide_20 : decode cX8_hide 20 = .ok (.getfield 79, 3) := by decide +kernel
theorem dX8_hide_23 : decode cX8_hide 23 = .ok (.if_icmp .ge 36, 3) := by decide +kernel
theorem dX8_hide_26 : decode cX8_hide 26 = .ok (.aload_n 0, 1) := by decide +kernel
theorem dX8_hide_27 : decode cX8_hide 27 = .ok (.getfield 36, 3) := by decide +kernel
theorem dX8_hide_30 : decode cX8_hide 30 = .ok (.getfield 147, 3) := by decide +kernel
theorem dX8_hide_33 : decode cX8_hide 33 = .ok (.iload_n 3, 1) := by decide +kernel
theorem dX8_hide_34 : decode cX8_hide 34 = .ok (.iaload, 1) := by decide +kernel
theorem dX8_hide_35 : decode cX8_hide 35 = .ok (.aload_n 0, 1) := by decide +kernel
theorem dX8_hide_36 : decode cX8_hide 36 = .ok (.getfield 10, 3) := by decide +kernel
theorem dX8_hide_39 : decode cX8_hide 39 = .ok (.getfield 159, 3) := by decide +kernel
theorem dX8_hide_42 : decode cX8_hide 42 = .ok (.iload_n 3, 1) := by decide +kernel
theorem dX8_hide_43 : decode cX8_hide 43 = .ok (.iaload, 1) := by decide +kernel
theorem dX8_hide_44 : decode cX8_hide 44 = .ok (.if_icmp .eq 9, 3) := by decide +kernel
theorem dX8_hide_47 : decode cX8_hide 47 = .ok (.iload_n 2, 1) := by decide +kernel
theorem dX8_hide_48 : decode cX8_hide 48 = .ok (.iconst 1, 1) := by decide +kernel
theorem dX8_hide_49 : decode cX8_hide 49 = .ok (.iload_n 3, 1) := by decide +kernel
theorem dX8_hide_50 : decode cX8_hide 50 = .ok (.ishl, 1) := by decide +kernel
theorem dX8_hide_51 : decode cX8_hide 51 = .ok (.ior, 1) := by decide +kernel
theorem dX8_hide_52 : decode cX8_hide 52 = .ok (.istore_n 2, 1) := by decide +kernel
theorem dX8_hide_53 : decode cX8_hide 53 = .ok (.iinc 3 1, 3) := by decide +kernel
theorem dX8_hide_56 : decode cX8_hide 56 = .ok (.goto (-41), 3) := by decide +kernel
theorem dX8_hide_59 : decode cX8_hide 59 = .ok (.iload_n 2, 1) := by decide +kernel
theorem dX8_hide_60 : decode cX8_hide 60 = .ok (.ireturn, 1) := by decide +kernel
theorem dX8_trace_0 : decode cX8_trace 0 = .ok (.aload_n 0, 1) := by decide +kernel
theorem dX8_trace_1 : decode cX8_trace 1 = .ok (.invokevirtual 128, 3) := by decide +kernel
theorem dX8_trace_4 : decode cX8_trace 4 = .ok (.istore_n 1, 1) := by decide +kernel
theorem dX8_trace_5 : decode cX8_trace 5 = .ok (.iload_n 1, 1) := by decide +kernel
theorem dX8_trace_6 : decode cX8_trace 6 = .ok (.ifCond .eq 5, 3) := by decide +kernel
theorem dX8_trace_9 : decode cX8_trace 9 = .ok (.iload_n 1, 1) := by decide +kernel
theorem dX8_trace_10 : decode cX8_trace 10 = .ok (.ireturn, 1) := by decide +kernel
theorem dX8_trace_11 : decode cX8_trace 11 = .ok (.aload_n 0, 1) := by decide +kernel
theorem dX8_trace_12 : decode cX8_trace 12 = .ok (.getfield 45, 3) := by decide +kernel
theorem dX8_trace_15 : decode cX8_trace 15 = .ok (.getfield 237, 3) := by decide +kernel
theorem dX8_trace_18 : decode cX8_trace 18 = .ok (.bipush (-6), 2) := by decide +kernel
theorem dX8_trace_20 : decode cX8_trace 20 = .ok (.invokestatic 179, 3) := by decide +kernel
theorem dX8_trace_23 : decode cX8_trace 23 = .ok (.aload_n 0, 1) := by decide +kernel
theorem dX8_trace_24 : decode cX8_trace 24 = .ok (.getfield 36, 3) := by decide +kernel
theorem dX8_trace_27 : decode cX8_trace 27 = .ok (.getfield 147, 3) := by decide +kernel
theorem dX8_trace_30 : decode cX8_trace 30 = .ok (.iconst 0, 1) := by decide +kernel
theorem dX8_trace_31 : decode cX8_trace 31 = .ok (.aload_n 0, 1) := by decide +kernel
theorem dX8_trace_32 : decode cX8_trace 32 = .ok (.getfield 45, 3) := by decide +kernel
theorem dX8_trace_35 : decode cX8_trace 35 = .ok (.getfield 237, 3) := by decide +kernel
theorem dX8_trace_38 : decode cX8_trace 38 = .ok (.iconst 0, 1) := by decide +kernel
theorem dX8_trace_39 : decode cX8_trace 39 = .ok (.aload_n 0, 1) := by decide +kernel
theorem dX8_trace_40 : decode cX8_trace 40 = .ok (.getfield 10, 3) := by decide +kernel
theorem dX8_trace_43 : decode cX8_trace 43 = .ok (.getfield 79, 3) := by decide +kernel
theorem dX8_trace_46 : decode cX8_trace 46 = .ok (.invokestatic 160, 3) := by decide +kernel
theorem dX8_trace_49 : decode cX8_trace 49 = .ok (.aload_n 0, 1) := by decide +kernel
theorem dX8_trace_50 : decode cX8_trace 50 = .ok (.getfield 52, 3) := by decide +kernel
theorem dX8_trace_53 : decode cX8_trace 53 = .ok (.aload_n 0, 1) := by decide +kernel
theorem dX8_trace_54 : decode cX8_trace 54 = .ok (.getfield 45, 3) := by decide +kernel
theorem dX8_trace_57 : decode cX8_trace 57 = .ok (.getfield 237, 3) := by decide +kernel
theorem dX8_trace_60 : decode cX8_trace 60 = .ok (.bipush 6, 2) := by decide +kernel
theorem dX8_trace_62 : decode cX8_trace 62 = .ok (.invokevirtual 188, 3) := by decide +kernel
theorem dX8_trace_65 : decode cX8_trace 65 = .ok (.aload_n 0, 1) := by decide +kernel
theorem dX8_trace_66 : decode cX8_trace 66 = .ok (.getfield 52, 3) := by decide +kernel
theorem dX8_trace_69 : decode cX8_trace 69 = .ok (.getfield 192, 3) := by decide +kernel
theorem dX8_trace_72 : decode cX8_trace 72 = .ok (.ireturn, 1) := by decide +kernel
theorem dX8_lock_0 : decode cX8_lock 0 = .ok (.iload_n 1, 1) := by decide +kernel
theorem dX8_lock_1 : decode cX8_lock 1 = .ok (.iconst (-1), 1) := by decide +kernel
theorem dX8_lock_2 : decode cX8_lock 2 = .ok (.if_icmp .eq 16, 3) := by decide +kernel
theorem dX8_lock_5 : decode cX8_lock 5 = .ok (.aload_n 0, 1) := by decide +kernel
theorem dX8_lock_6 : decode cX8_lock 6 = .ok (.getfield 10, 3) := by decide +kernel
theorem dX8_lock_9 : decode cX8_lock 9 = .ok (.iload_n 1, 1) := by decide +kernel
theorem dX8_lock_10 : decode cX8_lock 10 = .ok (.invokevirtual 87, 3) := by decide +kernel
theorem dX8_lock_13 : decode cX8_lock 13 = .ok (.ifCond .ne 5, 3) := by decide +kernel
theorem dX8_lock_16 : decode cX8_lock 16 = .ok (.iconst (-1), 1) := by decide +kernel
theorem dX8_lock_17 : decode cX8_lock 17 = .ok (.ireturn, 1) := by decide +kernel
theorem dX8_lock_18 : decode cX8_lock 18 = .ok (.iload_n 2, 1) := by decide +kernel
theorem dX8_lock_19 : decode cX8_lock 19 = .ok (.ifCond .lt 8, 3) := by decide +kernel
theorem dX8_lock_22 : decode cX8_lock 22 = .ok (.iload_n 2, 1) := by decide +kernel
theorem dX8_lock_23 : decode cX8_lock 23 = .ok (.iconst 5, 1) := by decide +kernel
theorem dX8_lock_24 : decode cX8_lock 24 = .ok (.if_icmp .le 6, 3) := by decide +kernel
theorem dX8_lock_27 : decode cX8_lock 27 = .ok (.bipush (-2), 2) := by decide +kernel
theorem dX8_lock_29 : decode cX8_lock 29 = .ok (.ireturn, 1) := by decide +kernel
theorem dX8_lock_30 : decode cX8_lock 30 = .ok (.aload_n 0, 1) := by decide +kernel
theorem dX8_lock_31 : decode cX8_lock 31 = .ok (.getfield 36, 3) := by decide +kernel
theorem dX8_lock_34 : decode cX8_lock 34 = .ok (.invokevirtual 167, 3) := by decide +kernel
theorem dX8_lock_37 : decode cX8_lock 37 = .ok (.iload_n 1, 1) := by decide +kernel
theorem dX8_lock_38 : decode cX8_lock 38 = .ok (.ifCond .lt 18, 3) := by decide +kernel
theorem dX8_lock_41 : decode cX8_lock 41 = .ok (.aload_n 0, 1) := by decide +kernel
theorem dX8_lock_42 : decode cX8_lock 42 = .ok (.getfield 36, 3) := by decide +kernel
theorem dX8_lock_45 : decode cX8_lock 45 = .ok (.dup, 1) := by decide +kernel
theorem dX8_lock_46 : decode cX8_lock 46 = .ok (.getfield 240, 3) := by decide +kernel
theorem dX8_lock_49 : decode cX8_lock 49 = .ok (.iconst 1, 1) := by decide +kernel
theorem dX8_lock_50 : decode cX8_lock 50 = .ok (.iload_n 1, 1) := by decide +kernel
theorem dX8_lock_51 : decode cX8_lock 51 = .ok (.ishl, 1) := by decide +kernel
theorem dX8_lock_52 : decode cX8_lock 52 = .ok (.ior, 1) := by decide +kernel
theorem dX8_lock_53 : decode cX8_lock 53 = .ok (.putfield 240, 3) := by decide +kernel
theorem dX8_lock_56 : decode cX8_lock 56 = .ok (.aload_n 0, 1) := by decide +kernel
theorem dX8_lock_57 : decode cX8_lock 57 = .ok (.getfield 68, 3) := by decide +kernel
theorem dX8_lock_60 : decode cX8_lock 60 = .ok (.iload_n 2, 1) := by decide +kernel
theorem dX8_lock_61 : decode cX8_lock 61 = .ok (.invokevirtual 243, 3) := by decide +kernel
theorem dX8_lock_64 : decode cX8_lock 64 = .ok (.ireturn, 1) := by decide +kernel
theorem dX8_year_0 : decode cX8_year 0 = .ok (.iload_n 1, 1) := by decide +kernel
theorem dX8_year_1 : decode cX8_year 1 = .ok (.ifCond .lt 21, 3) := by decide +kernel
theorem dX8_year_4 : decode cX8_year 4 = .ok (.iload_n 1, 1) := by decide +kernel
theorem dX8_year_5 : decode cX8_year 5 = .ok (.sipush 9999, 3) := by decide +kernel
theorem dX8_year_8 : decode cX8_year 8 = .ok (.if_icmp .gt 14, 3) := by decide +kernel
theorem dX8_year_11 : decode cX8_year 11 = .ok (.iload_n 2, 1) := by decide +kernel
theorem dX8_year_12 : decode cX8_year 12 = .ok (.iconst 1, 1) := by decide +kernel
theorem dX8_year_13 : decode cX8_year 13 = .ok (.if_icmp .lt 9, 3) := by decide +kernel
theorem dX8_year_16 : decode cX8_year 16 = .ok (.iload_n 2, 1) := by decide +kernel
theorem dX8_year_17 : decode cX8_year 17 = .ok (.bipush 60, 2) := by decide +kernel
theorem dX8_year_19 : decode cX8_year 19 = .ok (.if_icmp .le 6, 3) := by decide +kernel
theorem dX8_year_22 : decode cX8_year 22 = .ok (.bipush (-2), 2) := by decide +kernel
theorem dX8_year_24 : decode cX8_year 24 = .ok (.ireturn, 1) := by decide +kernel
theorem dX8_year_25 : decode cX8_year 25 = .ok (.iload_n 3, 1) := by decide +kernel
theorem dX8_year_26 : decode cX8_year 26 = .ok (.ifCond .lt 8, 3) := by decide +kernel
theorem dX8_year_29 : decode cX8_year 29 = .ok (.iload_n 3, 1) := by decide +kernel
theorem dX8_year_30 : decode cX8_year 30 = .ok (.iconst 2, 1) := by decide +kernel
theorem dX8_year_31 : decode cX8_year 31 = .ok (.if_icmp .le 6, 3) := by decide +kernel
theorem dX8_year_34 : decode cX8_year 34 = .ok (.bipush (-2), 2) := by decide +kernel
theorem dX8_year_36 : decode cX8_year 36 = .ok (.ireturn, 1) := by decide +kernel
theorem dX8_year_37 : decode cX8_year 37 = .ok (.iload_n 1, 1) := by decide +kernel
theorem dX8_year_38 : decode cX8_year 38 = .ok (.istore 4, 2) := by decide +kernel
theorem dX8_year_40 : decode cX8_year 40 = .ok (.iconst 0, 1) := by decide +kernel
theorem dX8_year_41 : decode cX8_year 41 = .ok (.istore 5, 2) := by decide +kernel
theorem dX8_year_43 : decode cX8_year 43 = .ok (.iconst 0, 1) := by decide +kernel
theorem dX8_year_44 : decode cX8_year 44 = .ok (.istore 6, 2) := by decide +kernel
theorem dX8_year_46 : decode cX8_year 46 = .ok (.iconst 0, 1) := by decide +kernel
theorem dX8_year_47 : decode cX8_year 47 = .ok (.istore 7, 2) := by decide +kernel
theorem dX8_year_49 : decode cX8_year 49 = .ok (.iconst 0, 1) := by decide +kernel
theorem dX8_year_50 : decode cX8_year 50 = .ok (.istore 8, 2) := by decide +kernel
theorem dX8_year_52 : decode cX8_year 52 = .ok (.iload 8, 2) := by decide +kernel
theorem dX8_year_54 : decode cX8_year 54 = .ok (.iload_n 2, 1) := by decide +kernel
theorem dX8_year_55 : decode cX8_year 55 = .ok (.if_icmp .ge 96, 3) := by decide +kernel
theorem dX8_year_58 : decode cX8_year 58 = .ok (.aload_n 0, 1) := by decide +kernel
theorem dX8_year_59 : decode cX8_year 59 = .ok (.getfield 36, 3) := by decide +kernel
theorem dX8_year_62 : decode cX8_year 62 = .ok (.invokevirtual 167, 3) := by decide +kernel
theorem dX8_year_65 : decode cX8_year 65 = .ok (.iload 5, 2) := by decide +kernel
theorem dX8_year_67 : decode cX8_year 67 = .ok (.istore 9, 2) := by decide +kernel
theorem dX8_year_69 : decode cX8_year 69 = .ok (.iconst 0, 1) := by decide +kernel
theorem dX8_year_70 : decode cX8_year 70 = .ok (.istore 10, 2) := by decide +kernel
theorem dX8_year_72 : decode cX8_year 72 = .ok (.iload 10, 2) := by decide +kernel
theorem dX8_year_74 : decode cX8_year 74 = .ok (.iconst 3, 1) := by decide +kernel
theorem dX8_year_75 : decode cX8_year 75 = .ok (.if_icmp .ge 60, 3) := by decide +kernel
theorem dX8_year_78 : decode cX8_year 78 = .ok (.bipush 75, 2) := by decide +kernel
theorem dX8_year_80 : decode cX8_year 80 = .ok (.iload 4, 2) := by decide +kernel
theorem dX8_year_82 : decode cX8_year 82 = .ok (.imul, 1) := by decide +kernel
theorem dX8_year_83 : decode cX8_year 83 = .ok (.bipush 74, 2) := by decide +kernel
theorem dX8_year_85 : decode cX8_year 85 = .ok (.iadd, 1) := by decide +kernel
theorem dX8_year_86 : decode cX8_year 86 = .ok (.ldc 245, 2) := by decide +kernel
theorem dX8_year_88 : decode cX8_year 88 = .ok (.irem, 1) := by decide +kernel
theorem dX8_year_89 : decode cX8_year 89 = .ok (.istore 4, 2) := by decide +kernel
theorem dX8_year_91 : decode cX8_year 91 = .ok (.aload_n 0, 1) := by decide +kernel
theorem dX8_year_92 : decode cX8_year 92 = .ok (.getfield 36, 3) := by decide +kernel
theorem dX8_year_95 : decode cX8_year 95 = .ok (.iload 4, 2) := by decide +kernel
theorem dX8_year_97 : decode cX8_year 97 = .ok (.iconst 4, 1) := by decide +kernel
theorem dX8_year_98 : decode cX8_year 98 = .ok (.irem, 1) := by decide +kernel
theorem dX8_year_99 : decode cX8_year 99 = .ok (.invokevirtual 246, 3) := by decide +kernel
theorem dX8_year_102 : decode cX8_year 102 = .ok (.istore 11, 2) := by decide +kernel
theorem dX8_year_104 : decode cX8_year 104 = .ok (.iload 5, 2) := by decide +kernel
theorem dX8_year_106 : decode cX8_year 106 = .ok (.iload 11, 2) := by decide +kernel
theorem dX8_year_108 : decode cX8_year 108 = .ok (.iadd, 1) := by decide +kernel
theorem dX8_year_109 : decode cX8_year 109 = .ok (.istore 5, 2) := by decide +kernel
theorem dX8_year_111 : decode cX8_year 111 = .ok (.iload 11, 2) := by decide +kernel
theorem dX8_year_113 : decode cX8_year 113 = .ok (.ifCond .le 16, 3) := by decide +kernel
theorem dX8_year_116 : decode cX8_year 116 = .ok (.aload_n 0, 1) := by decide +kernel
theorem dX8_year_117 : decode cX8_year 117 = .ok (.getfield 36, 3) := by decide +kernel
theorem dX8_year_120 : decode cX8_year 120 = .ok (.getfield 249, 3) := by decide +kernel
theorem dX8_year_123 : decode cX8_year 123 = .ok (.ifCond .ne 6, 3) := by decide +kernel
theorem dX8_year_126 : decode cX8_year 126 = .ok (.iinc 6 1, 3) := by decide +kernel
theorem dX8_year_129 : decode cX8_year 129 = .ok (.iinc 10 1, 3) := by decide +kernel
theorem dX8_year_132 : decode cX8_year 132 = .ok (.goto (-60), 3) := by decide +kernel
theorem dX8_year_135 : decode cX8_year 135 = .ok (.iload 5, 2) := by decide +kernel
theorem dX8_year_137 : decode cX8_year 137 = .ok (.iload 9, 2) := by decide +kernel
theorem dX8_year_139 : decode cX8_year 139 = .ok (.if_icmp .ne 6, 3) := by decide +kernel
theorem dX8_year_142 : decode cX8_year 142 = .ok (.iinc 7 1, 3) := by decide +kernel
theorem dX8_year_145 : decode cX8_year 145 = .ok (.iinc 8 1, 3) := by decide +kernel
theorem dX8_year_148 : decode cX8_year 148 = .ok (.goto (-96), 3) := by decide +kernel
theorem dX8_year_151 : decode cX8_year 151 = .ok (.iload_n 3, 1) := by decide +kernel
theorem dX8_year_152 : decode cX8_year 152 = .ok (.ifCond .ne 8, 3) := by decide +kernel
theorem dX8_year_155 : decode cX8_year 155 = .ok (.iload 5, 2) := by decide +kernel
theorem dX8_year_157 : decode cX8_year 157 = .ok (.goto 15, 3) := by decide +kernel
theorem dX8_year_160 : decode cX8_year 160 = .ok (.iload_n 3, 1) := by decide +kernel
theorem dX8_year_161 : decode cX8_year 161 = .ok (.iconst 1, 1) := by decide +kernel
theorem dX8_year_162 : decode cX8_year 162 = .ok (.if_icmp .ne 8, 3) := by decide +kernel
theorem dX8_year_165 : decode cX8_year 165 = .ok (.iload 6, 2) := by decide +kernel
theorem dX8_year_167 : decode cX8_year 167 = .ok (.goto 5, 3) := by decide +kernel
theorem dX8_year_170 : decode cX8_year 170 = .ok (.iload 7, 2) := by decide +kernel
theorem dX8_year_172 : decode cX8_year 172 = .ok (.ireturn, 1) := by decide +kernel
theorem dX8_image_0 : decode cX8_image 0 = .ok (.iload_n 1, 1) := by decide +kernel
theorem dX8_image_1 : decode cX8_image 1 = .ok (.ifCond .lt 8, 3) := by decide +kernel
theorem dX8_image_4 : decode cX8_image 4 = .ok (.iload_n 1, 1) := by decide +kernel
theorem dX8_image_5 : decode cX8_image 5 = .ok (.iconst 2, 1) := by decide +kernel
theorem dX8_image_6 : decode cX8_image 6 = .ok (.if_icmp .lt 6, 3) := by decide +kernel
theorem dX8_image_9 : decode cX8_image 9 = .ok (.bipush (-2), 2) := by decide +kernel
theorem dX8_image_11 : decode cX8_image 11 = .ok (.ireturn, 1) := by decide +kernel
theorem dX8_image_12 : decode cX8_image 12 = .ok (.aload_n 0, 1) := by decide +kernel
theorem dX8_image_13 : decode cX8_image 13 = .ok (.getfield 16, 3) := by decide +kernel
theorem dX8_image_16 : decode cX8_image 16 = .ok (.iload_n 1, 1) := by decide +kernel
theorem dX8_image_17 : decode cX8_image 17 = .ok (.aaload, 1) := by decide +kernel
theorem dX8_image_18 : decode cX8_image 18 = .ok (.aload_n 0, 1) := by decide +kernel
theorem dX8_image_19 : decode cX8_image 19 = .ok (.getfield 10, 3) := by decide +kernel
theorem dX8_image_22 : decode cX8_image 22 = .ok (.invokevirtual 251, 3) := by decide +kernel
theorem dX8_image_25 : decode cX8_image 25 = .ok (.aload_n 0, 1) := by decide +kernel
theorem dX8_image_26 : decode cX8_image 26 = .ok (.getfield 20, 3) := by decide +kernel
theorem dX8_image_29 : decode cX8_image 29 = .ok (.iload_n 1, 1) := by decide +kernel
theorem dX8_image_30 : decode cX8_image 30 = .ok (.iconst 1, 1) := by decide +kernel
theorem dX8_image_31 : decode cX8_image 31 = .ok (.bastore, 1) := by decide +kernel
theorem dX8_image_32 : decode cX8_image 32 = .ok (.iconst 1, 1) := by decide +kernel
theorem dX8_image_33 : decode cX8_image 33 = .ok (.ireturn, 1) := by decide +kernel
theorem dX8_restore_0 : decode cX8_restore 0 = .ok (.iload_n 1, 1) := by decide +kernel
theorem dX8_restore_1 : decode cX8_restore 1 = .ok (.ifCond .lt 8, 3) := by decide +kernel
theorem dX8_restore_4 : decode cX8_restore 4 = .ok (.iload_n 1, 1) := by decide +kernel
theorem dX8_restore_5 : decode cX8_restore 5 = .ok (.iconst 2, 1) := by decide +kernel
theorem dX8_restore_6 : decode cX8_restore 6 = .ok (.if_icmp .lt 6, 3) := by decide +kernel
theorem dX8_restore_9 : decode cX8_restore 9 = .ok (.bipush (-2), 2) := by decide +kernel
theorem dX8_restore_11 : decode cX8_restore 11 = .ok (.ireturn, 1) := by decide +kernel
theorem dX8_restore_12 : decode cX8_restore 12 = .ok (.aload_n 0, 1) := by decide +kernel
theorem dX8_restore_13 : decode cX8_restore 13 = .ok (.getfield 20, 3) := by decide +kernel
theorem dX8_restore_16 : decode cX8_restore 16 = .ok (.iload_n 1, 1) := by decide +kernel
theorem dX8_restore_17 : decode cX8_restore 17 = .ok (.baload, 1) := by decide +kernel
theorem dX8_restore_18 : decode cX8_restore 18 = .ok (.ifCond .ne 6, 3) := by decide +kernel
theorem dX8_restore_21 : decode cX8_restore 21 = .ok (.bipush (-3), 2) := by decide +kernel
theorem dX8_restore_23 : decode cX8_restore 23 = .ok (.ireturn, 1) := by decide +kernel
theorem dX8_restore_24 : decode cX8_restore 24 = .ok (.aload_n 0, 1) := by decide +kernel
theorem dX8_restore_25 : decode cX8_restore 25 = .ok (.getfield 10, 3) := by decide +kernel
theorem dX8_restore_28 : decode cX8_restore 28 = .ok (.aload_n 0, 1) := by decide +kernel
theorem dX8_restore_29 : decode cX8_restore 29 = .ok (.getfield 16, 3) := by decide +kernel
theorem dX8_restore_32 : decode cX8_restore 32 = .ok (.iload_n 1, 1) := by decide +kernel
theorem dX8_restore_33 : decode cX8_restore 33 = .ok (.aaload, 1) := by decide +kernel
theorem dX8_restore_34 : decode cX8_restore 34 = .ok (.invokevirtual 251, 3) := by decide +kernel
theorem dX8_restore_37 : decode cX8_restore 37 = .ok (.iconst 1, 1) := by decide +kernel
theorem dX8_restore_38 : decode cX8_restore 38 = .ok (.ireturn, 1) := by decide +kernel
theorem dX8_told_0 : decode cX8_told 0 = .ok (.iload_n 1, 1) := by decide +kernel
theorem dX8_told_1 : decode cX8_told 1 = .ok (.tableswitch 63 0 3 #[31, 39, 47, 55], 31) := by decide +kernel
theorem dX8_told_32 : decode cX8_told 32 = .ok (.aload_n 0, 1) := by decide +kernel
theorem dX8_told_33 : decode cX8_told 33 = .ok (.getfield 27, 3) := by decide +kernel
theorem dX8_told_36 : decode cX8_told 36 = .ok (.getfield 122, 3) := by decide +kernel
theorem dX8_told_39 : decode cX8_told 39 = .ok (.ireturn, 1) := by decide +kernel
theorem dX8_told_40 : decode cX8_told 40 = .ok (.aload_n 0, 1) := by decide +kernel
theorem dX8_told_41 : decode cX8_told 41 = .ok (.getfield 10, 3) := by decide +kernel
theorem dX8_told_44 : decode cX8_told 44 = .ok (.getfield 79, 3) := by decide +kernel
theorem dX8_told_47 : decode cX8_told 47 = .ok (.ireturn, 1) := by decide +kernel
theorem dX8_told_48 : decode cX8_told 48 = .ok (.aload_n 0, 1) := by decide +kernel
theorem dX8_told_49 : decode cX8_told 49 = .ok (.getfield 10, 3) := by decide +kernel
theorem dX8_told_52 : decode cX8_told 52 = .ok (.getfield 107, 3) := by decide +kernel
theorem dX8_told_55 : decode cX8_told 55 = .ok (.ireturn, 1) := by decide +kernel
theorem dX8_told_56 : decode cX8_told 56 = .ok (.aload_n 0, 1) := by decide +kernel
theorem dX8_told_57 : decode cX8_told 57 = .ok (.getfield 10, 3) := by decide +kernel
theorem dX8_told_60 : decode cX8_told 60 = .ok (.invokevirtual 176, 3) := by decide +kernel
theorem dX8_told_63 : decode cX8_told 63 = .ok (.ireturn, 1) := by decide +kernel
theorem dX8_told_64 : decode cX8_told 64 = .ok (.iload_n 1, 1) := by decide +kernel
theorem dX8_told_65 : decode cX8_told 65 = .ok (.bipush 100, 2) := by decide +kernel
theorem dX8_told_67 : decode cX8_told 67 = .ok (.if_icmp .lt 18, 3) := by decide +kernel
theorem dX8_told_70 : decode cX8_told 70 = .ok (.aload_n 0, 1) := by decide +kernel
theorem dX8_told_71 : decode cX8_told 71 = .ok (.iload_n 1, 1) := by decide +kernel
theorem dX8_told_72 : decode cX8_told 72 = .ok (.bipush 100, 2) := by decide +kernel
theorem dX8_told_74 : decode cX8_told 74 = .ok (.idiv, 1) := by decide +kernel
theorem dX8_told_75 : decode cX8_told 75 = .ok (.iconst 1, 1) := by decide +kernel
theorem dX8_told_76 : decode cX8_told 76 = .ok (.isub, 1) := by decide +kernel
theorem dX8_told_77 : decode cX8_told 77 = .ok (.iload_n 1, 1) := by decide +kernel
theorem dX8_told_78 : decode cX8_told 78 = .ok (.bipush 100, 2) := by decide +kernel
theorem dX8_told_80 : decode cX8_told 80 = .ok (.irem, 1) := by decide +kernel
theorem dX8_told_81 : decode cX8_told 81 = .ok (.invokevirtual 254, 3) := by decide +kernel
theorem dX8_told_84 : decode cX8_told 84 = .ok (.ireturn, 1) := by decide +kernel
theorem dX8_told_85 : decode cX8_told 85 = .ok (.iload_n 1, 1) := by decide +kernel
theorem dX8_told_86 : decode cX8_told 86 = .ok (.bipush 10, 2) := by decide +kernel
theorem dX8_told_88 : decode cX8_told 88 = .ok (.if_icmp .lt 18, 3) := by decide +kernel
theorem dX8_told_91 : decode cX8_told 91 = .ok (.aload_n 0, 1) := by decide +kernel
theorem dX8_told_92 : decode cX8_told 92 = .ok (.iload_n 1, 1) := by decide +kernel
theorem dX8_told_93 : decode cX8_told 93 = .ok (.bipush 10, 2) := by decide +kernel
theorem dX8_told_95 : decode cX8_told 95 = .ok (.idiv, 1) := by decide +kernel
theorem dX8_told_96 : decode cX8_told 96 = .ok (.iconst 1, 1) := by decide +kernel
theorem dX8_told_97 : decode cX8_told 97 = .ok (.isub, 1) := by decide +kernel
theorem dX8_told_98 : decode cX8_told 98 = .ok (.iload_n 1, 1) := by decide +kernel
theorem dX8_told_99 : decode cX8_told 99 = .ok (.bipush 10, 2) := by decide +kernel
theorem dX8_told_101 : decode cX8_told 101 = .ok (.irem, 1) := by decide +kernel
theorem dX8_told_102 : decode cX8_told 102 = .ok (.invokevirtual 257, 3) := by decide +kernel
theorem dX8_told_105 : decode cX8_told 105 = .ok (.ireturn, 1) := by decide +kernel
theorem dX8_told_106 : decode cX8_told 106 = .ok (.bipush (-2), 2) := by decide +kernel
theorem dX8_told_108 : decode cX8_told 108 = .ok (.ireturn, 1) := by decide +kernel
theorem dX8_toldOfThing_0 : decode cX8_toldOfThing 0 = .ok (.aload_n 0, 1) := by decide +kernel
theorem dX8_toldOfThing_1 : decode cX8_toldOfThing 1 = .ok (.getfield 10, 3) := by decide +kernel
theorem dX8_toldOfThing_4 : decode cX8_toldOfThing 4 = .ok (.iload_n 1, 1) := by decide +kernel
theorem dX8_toldOfThing_5 : decode cX8_toldOfThing 5 = .ok (.invokevirtual 87, 3) := by decide +kernel
theorem dX8_toldOfThing_8 : decode cX8_toldOfThing 8 = .ok (.ifCond .eq 20, 3) := by decide +kernel
theorem dX8_toldOfThing_11 : decode cX8_toldOfThing 11 = .ok (.iload_n 2, 1) := by decide +kernel
theorem dX8_toldOfThing_12 : decode cX8_toldOfThing 12 = .ok (.iconst 5, 1) := by decide +kernel
theorem dX8_toldOfThing_13 : decode cX8_toldOfThing 13 = .ok (.if_icmp .gt 15, 3) := by decide +kernel
theorem dX8_toldOfThing_16 : decode cX8_toldOfThing 16 = .ok (.aload_n 0, 1) := by decide +kernel
theorem dX8_toldOfThing_17 : decode cX8_toldOfThing 17 = .ok (.getfield 10, 3) := by decide +kernel
theorem dX8_toldOfThing_20 : decode cX8_toldOfThing 20 = .ok (.iload_n 1, 1) := by decide +kernel
theorem dX8_toldOfThing_21 : decode cX8_toldOfThing 21 = .ok (.iload_n 2, 1) := by decide +kernel
theorem dX8_toldOfThing_22 : decode cX8_toldOfThing 22 = .ok (.invokevirtual 95, 3) := by decide +kernel
theorem dX8_toldOfThing_25 : decode cX8_toldOfThing 25 = .ok (.goto 5, 3) := by decide +kernel
theorem dX8_toldOfThing_28 : decode cX8_toldOfThing 28 = .ok (.bipush (-2), 2) := by decide +kernel
theorem dX8_toldOfThing_30 : decode cX8_toldOfThing 30 = .ok (.ireturn, 1) := by decide +kernel
theorem dX8_toldOfGuest_0 : decode cX8_toldOfGuest 0 = .ok (.aload_n 0, 1) := by decide +kernel
theorem dX8_toldOfGuest_1 : decode cX8_toldOfGuest 1 = .ok (.getfield 10, 3) := by decide +kernel
theorem dX8_toldOfGuest_4 : decode cX8_toldOfGuest 4 = .ok (.iload_n 1, 1) := by decide +kernel
theorem dX8_toldOfGuest_5 : decode cX8_toldOfGuest 5 = .ok (.invokevirtual 116, 3) := by decide +kernel
theorem dX8_toldOfGuest_8 : decode cX8_toldOfGuest 8 = .ok (.ifCond .eq 20, 3) := by decide +kernel
theorem dX8_toldOfGuest_11 : decode cX8_toldOfGuest 11 = .ok (.iload_n 2, 1) := by decide +kernel
theorem dX8_toldOfGuest_12 : decode cX8_toldOfGuest 12 = .ok (.iconst 3, 1) := by decide +kernel
theorem dX8_toldOfGuest_13 : decode cX8_toldOfGuest 13 = .ok (.if_icmp .gt 15, 3) := by decide +kernel
theorem dX8_toldOfGuest_16 : decode cX8_toldOfGuest 16 = .ok (.aload_n 0, 1) := by decide +kernel
theorem dX8_toldOfGuest_17 : decode cX8_toldOfGuest 17 = .ok (.getfield 10, 3) := by decide +kernel
theorem dX8_toldOfGuest_20 : decode cX8_toldOfGuest 20 = .ok (.iload_n 1, 1) := by decide +kernel
theorem dX8_toldOfGuest_21 : decode cX8_toldOfGuest 21 = .ok (.iload_n 2, 1) := by decide +kernel
theorem dX8_toldOfGuest_22 : decode cX8_toldOfGuest 22 = .ok (.invokevirtual 260, 3) := by decide +kernel
theorem dX8_toldOfGuest_25 : decode cX8_toldOfGuest 25 = .ok (.goto 5, 3) := by decide +kernel
theorem dX8_toldOfGuest_28 : decode cX8_toldOfGuest 28 = .ok (.bipush (-2), 2) := by decide +kernel
theorem dX8_toldOfGuest_30 : decode cX8_toldOfGuest 30 = .ok (.ireturn, 1) := by decide +kernel
theorem dX8_isRowLength_0 : decode cX8_isRowLength 0 = .ok (.iload_n 0, 1) := by decide +kernel
theorem dX8_isRowLength_1 : decode cX8_isRowLength 1 = .ok (.ifCond .lt 13, 3) := by decide +kernel
theorem dX8_isRowLength_4 : decode cX8_isRowLength 4 = .ok (.iload_n 0, 1) := by decide +kernel
theorem dX8_isRowLength_5 : decode cX8_isRowLength 5 = .ok (.bipush 6, 2) := by decide +kernel
theorem dX8_isRowLength_7 : decode cX8_isRowLength 7 = .ok (.if_icmp .gt 7, 3) := by decide +kernel
theorem dX8_isRowLength_10 : decode cX8_isRowLength 10 = .ok (.iconst 1, 1) := by decide +kernel
theorem dX8_isRowLength_11 : decode cX8_isRowLength 11 = .ok (.goto 4, 3) := by decide +kernel
theorem dX8_isRowLength_14 : decode cX8_isRowLength 14 = .ok (.iconst 0, 1) := by decide +kernel
theorem dX8_isRowLength_15 : decode cX8_isRowLength 15 = .ok (.ireturn, 1) := by decide +kernel
theorem dX8_runEvening_0 : decode cX8_runEvening 0 = .ok (.aload_n 0, 1) := by decide +kernel
theorem dX8_runEvening_1 : decode cX8_runEvening 1 = .ok (.getfield 27, 3) := by decide +kernel
theorem dX8_runEvening_4 : decode cX8_runEvening 4 = .ok (.aload_n 0, 1) := by decide +kernel
theorem dX8_runEvening_5 : decode cX8_runEvening 5 = .ok (.getfield 10, 3) := by decide +kernel
theorem dX8_runEvening_8 : decode cX8_runEvening 8 = .ok (.getfield 79, 3) := by decide +kernel
theorem dX8_runEvening_11 : decode cX8_runEvening 11 = .ok (.invokevirtual 125, 3) := by decide +kernel
theorem dX8_runEvening_14 : decode cX8_runEvening 14 = .ok (.bipush (-6), 2) := by decide +kernel
theorem dX8_runEvening_16 : decode cX8_runEvening 16 = .ok (.if_icmp .eq 6, 3) := by decide +kernel
theorem dX8_runEvening_19 : decode cX8_runEvening 19 = .ok (.bipush (-5), 2) := by decide +kernel
theorem dX8_runEvening_21 : decode cX8_runEvening 21 = .ok (.ireturn, 1) := by decide +kernel
theorem dX8_runEvening_22 : decode cX8_runEvening 22 = .ok (.aload_n 0, 1) := by decide +kernel
theorem dX8_runEvening_23 : decode cX8_runEvening 23 = .ok (.getfield 45, 3) := by decide +kernel
theorem dX8_runEvening_26 : decode cX8_runEvening 26 = .ok (.aload_n 0, 1) := by decide +kernel
theorem dX8_runEvening_27 : decode cX8_runEvening 27 = .ok (.getfield 27, 3) := by decide +kernel
theorem dX8_runEvening_30 : decode cX8_runEvening 30 = .ok (.invokevirtual 263, 3) := by decide +kernel
theorem dX8_runEvening_33 : decode cX8_runEvening 33 = .ok (.aload_n 0, 1) := by decide +kernel
theorem dX8_runEvening_34 : decode cX8_runEvening 34 = .ok (.getfield 45, 3) := by decide +kernel
theorem dX8_runEvening_37 : decode cX8_runEvening 37 = .ok (.getfield 132, 3) := by decide +kernel
theorem dX8_runEvening_40 : decode cX8_runEvening 40 = .ok (.bipush (-6), 2) := by decide +kernel
theorem dX8_runEvening_42 : decode cX8_runEvening 42 = .ok (.if_icmp .ne 7, 3) := by decide +kernel
theorem dX8_runEvening_45 : decode cX8_runEvening 45 = .ok (.iconst 0, 1) := by decide +kernel
theorem dX8_runEvening_46 : decode cX8_runEvening 46 = .ok (.goto 5, 3) := by decide +kernel
theorem dX8_runEvening_49 : decode cX8_runEvening 49 = .ok (.bipush (-3), 2) := by decide +kernel
theorem dX8_runEvening_51 : decode cX8_runEvening 51 = .ok (.ireturn, 1) := by decide +kernel
end
section
theorem dX9_init_0 : decode cX9_init 0 = .ok (.aload_n 0, 1) := by decide +kernel
theorem dX9_init_1 : decode cX9_init 1 = .ok (.invokespecial 1, 3) := by decide +kernel
theorem dX9_init_4 : decode cX9_init 4 = .ok (.aload_n 0, 1) := by decide +kernel
theorem dX9_init_5 : decode cX9_init 5 = .ok (.bipush 28, 2) := by decide +kernel
theorem dX9_init_7 : decode cX9_init 7 = .ok (.newarray .int, 2) := by decide +kernel
theorem dX9_init_9 : decode cX9_init 9 = .ok (.putfield 7, 3) := by decide +kernel
theorem dX9_init_12 : decode cX9_init 12 = .ok (.aload_n 0, 1) := by decide +kernel
theorem dX9_init_13 : decode cX9_init 13 = .ok (.bipush 7, 2) := by decide +kernel
theorem dX9_init_15 : decode cX9_init 15 = .ok (.newarray .int, 2) := by decide +kernel
theorem dX9_init_17 : decode cX9_init 17 = .ok (.putfield 13, 3) := by decide +kernel
theorem dX9_init_20 : decode cX9_init 20 = .ok (.aload_n 0, 1) := by decide +kernel
theorem dX9_init_21 : decode cX9_init 21 = .ok (.bipush 7, 2) := by decide +kernel
theorem dX9_init_23 : decode cX9_init 23 = .ok (.newarray .int, 2) := by decide +kernel
theorem dX9_init_25 : decode cX9_init 25 = .ok (.putfield 16, 3) := by decide +kernel
theorem dX9_init_28 : decode cX9_init 28 = .ok (.aload_n 0, 1) := by decide +kernel
theorem dX9_init_29 : decode cX9_init 29 = .ok (.iconst 4, 1) := by decide +kernel
theorem dX9_init_30 : decode cX9_init 30 = .ok (.newarray .int, 2) := by decide +kernel
theorem dX9_init_32 : decode cX9_init 32 = .ok (.putfield 19, 3) := by decide +kernel
theorem dX9_init_35 : decode cX9_init 35 = .ok (.aload_n 0, 1) := by decide +kernel
theorem dX9_init_36 : decode cX9_init 36 = .ok (.iconst 4, 1) := by decide +kernel
theorem dX9_init_37 : decode cX9_init 37 = .ok (.newarray .int, 2) := by decide +kernel
theorem dX9_init_39 : decode cX9_init 39 = .ok (.putfield 22, 3) := by decide +kernel
theorem dX9_init_42 : decode cX9_init 42 = .ok (.aload_n 0, 1) := by decide +kernel
theorem dX9_init_43 : decode cX9_init 43 = .ok (.iconst 4, 1) := by decide +kernel
theorem dX9_init_44 : decode cX9_init 44 = .ok (.newarray .int, 2) := by decide +kernel
theorem dX9_init_46 : decode cX9_init 46 = .ok (.putfield 25, 3) := by decide +kernel
theorem dX9_init_49 : decode cX9_init 49 = .ok (.aload_n 0, 1) := by decide +kernel
theorem dX9_init_50 : decode cX9_init 50 = .ok (.iconst 4, 1) := by decide +kernel
theorem dX9_init_51 : decode cX9_init 51 = .ok (.newarray .int, 2) := by decide +kernel
theorem dX9_init_53 : decode cX9_init 53 = .ok (.putfield 28, 3) := by decide +kernel
theorem dX9_init_56 : decode cX9_init 56 = .ok (.aload_n 0, 1) := by decide +kernel
theorem dX9_init_57 : decode cX9_init 57 = .ok (.bipush 40, 2) := by decide +kernel
theorem dX9_init_59 : decode cX9_init 59 = .ok (.newarray .int, 2) := by decide +kernel
theorem dX9_init_61 : decode cX9_init 61 = .ok (.putfield 31, 3) := by decide +kernel
theorem dX9_init_64 : decode cX9_init 64 = .ok (.aload_n 0, 1) := by decide +kernel
theorem dX9_init_65 : decode cX9_init 65 = .ok (.bipush 7, 2) := by decide +kernel
theorem dX9_init_67 : decode cX9_init 67 = .ok (.newarray .int, 2) := by decide +kernel
theorem dX9_init_69 : decode cX9_init 69 = .ok (.putfield 34, 3) := by decide +kernel
theorem dX9_init_72 : decode cX9_init 72 = .ok (.aload_n 0, 1) := by decide +kernel
theorem dX9_init_73 : decode cX9_init 73 = .ok (.bipush 7, 2) := by decide +kernel
theorem dX9_init_75 : decode cX9_init 75 = .ok (.newarray .int, 2) := by decide +kernel
theorem dX9_init_77 : decode cX9_init 77 = .ok (.putfield 37, 3) := by decide +kernel
theorem dX9_init_80 : decode cX9_init 80 = .ok (.aload_n 0, 1) := by decide +kernel
theorem dX9_init_81 : decode cX9_init 81 = .ok (.bipush 40, 2) := by decide +kernel
theorem dX9_init_83 : decode cX9_init 83 = .ok (.newarray .int, 2) := by decide +kernel
theorem dX9_init_85 : decode cX9_init 85 = .ok (.putfield 40, 3) := by decide +kernel
theorem dX9_init_88 : decode cX9_init 88 = .ok (.aload_n 0, 1) := by decide +kernel
theorem dX9_init_89 : decode cX9_init 89 = .ok (.bipush 7, 2) := by decide +kernel
theorem dX9_init_91 : decode cX9_init 91 = .ok (.newarray .int, 2) := by decide +kernel
theorem dX9_init_93 : decode cX9_init 93 = .ok (.putfield 43, 3) := by decide +kernel
theorem dX9_init_96 : decode cX9_init 96 = .ok (.aload_n 0, 1) := by decide +kernel
theorem dX9_init_97 : decode cX9_init 97 = .ok (.bipush 7, 2) := by decide +kernel
theorem dX9_init_99 : decode cX9_init 99 = .ok (.newarray .int, 2) := by decide +kernel
theorem dX9_init_101 : decode cX9_init 101 = .ok (.putfield 46, 3) := by decide +kernel
theorem dX9_init_104 : decode cX9_init 104 = .ok (.aload_n 0, 1) := by decide +kernel
theorem dX9_init_105 : decode cX9_init 105 = .ok (.bipush 7, 2) := by decide +kernel
theorem dX9_init_107 : decode cX9_init 107 = .ok (.newarray .int, 2) := by decide +kernel
theorem dX9_init_109 : decode cX9_init 109 = .ok (.putfield 49, 3) := by decide +kernel
theorem dX9_init_112 : decode cX9_init 112 = .ok (.aload_n 0, 1) := by decide +kernel
theorem dX9_init_113 : decode cX9_init 113 = .ok (.bipush 7, 2) := by decide +kernel
theorem dX9_init_115 : decode cX9_init 115 = .ok (.newarray .int, 2) := by decide +kernel
theorem dX9_init_117 : decode cX9_init 117 = .ok (.putfield 52, 3) := by decide +kernel
theorem dX9_init_120 : decode cX9_init 120 = .ok (.aload_n 0, 1) := by decide +kernel
theorem dX9_init_121 : decode cX9_init 121 = .ok (.bipush 6, 2) := by decide +kernel
theorem dX9_init_123 : decode cX9_init 123 = .ok (.newarray .int, 2) := by decide +kernel
theorem dX9_init_125 : decode cX9_init 125 = .ok (.putfield 55, 3) := by decide +kernel
theorem dX9_init_128 : decode cX9_init 128 = .ok (.aload_n 0, 1) := by decide +kernel
theorem dX9_init_129 : decode cX9_init 129 = .ok (.bipush 6, 2) := by decide +kernel
theorem dX9_init_131 : decode cX9_init 131 = .ok (.newarray .int, 2) := by decide +kernel
theorem dX9_init_133 : decode cX9_init 133 = .ok (.putfield 58, 3) := by decide +kernel
theorem dX9_init_136 : decode cX9_init 136 = .ok (.aload_n 0, 1) := by decide +kernel
theorem dX9_init_137 : decode cX9_init 137 = .ok (.bipush 7, 2) := by decide +kernel
theorem dX9_init_139 : decode cX9_init 139 = .ok (.newarray .int, 2) := by decide +kernel
theorem dX9_init_141 : decode cX9_init 141 = .ok (.putfield 61, 3) := by decide +kernel
theorem dX9_init_144 : decode cX9_init 144 = .ok (.aload_n 0, 1) := by decide +kernel
theorem dX9_init_145 : decode cX9_init 145 = .ok (.bipush 70, 2) := by decide +kernel
theorem dX9_init_147 : decode cX9_init 147 = .ok (.newarray .int, 2) := by decide +kernel
theorem dX9_init_149 : decode cX9_init 149 = .ok (.putfield 64, 3) := by decide +kernel
theorem dX9_init_152 : decode cX9_init 152 = .ok (.aload_n 0, 1) := by decide +kernel
theorem dX9_init_153 : decode cX9_init 153 = .ok (.iconst 4, 1) := by decide +kernel
theorem dX9_init_154 : decode cX9_init 154 = .ok (.newarray .int, 2) := by decide +kernel
theorem dX9_init_156 : decode cX9_init 156 = .ok (.putfield 67, 3) := by decide +kernel
theorem dX9_init_159 : decode cX9_init 159 = .ok (.aload_n 0, 1) := by decide +kernel
theorem dX9_init_160 : decode cX9_init 160 = .ok (.sipush 1024, 3) := by decide +kernel
theorem dX9_init_163 : decode cX9_init 163 = .ok (.newarray .int, 2) := by decide +kernel
theorem dX9_init_165 : decode cX9_init 165 = .ok (.putfield 70, 3) := by decide +kernel
theorem dX9_init_168 : decode cX9_init 168 = .ok (.aload_n 0, 1) := by decide +kernel
theorem dX9_init_169 : decode cX9_init 169 = .ok (.sipush 160, 3) := by decide +kernel
theorem dX9_init_172 : decode cX9_init 172 = .ok (.newarray .int, 2) := by decide +kernel
theorem dX9_init_174 : decode cX9_init 174 = .ok (.putfield 73, 3) := by decide +kernel
theorem dX9_init_177 : decode cX9_init 177 = .ok (.aload_n 0, 1) := by decide +kernel
theorem dX9_init_178 : decode cX9_init 178 = .ok (.iconst 2, 1) := by decide +kernel
theorem dX9_init_179 : decode cX9_init 179 = .ok (.newarray .boolean, 2) := by decide +kernel
theorem dX9_init_181 : decode cX9_init 181 = .ok (.putfield 76, 3) := by decide +kernel
theorem dX9_init_184 : decode cX9_init 184 = .ok (.aload_n 0, 1) := by decide +kernel
theorem dX9_init_185 : decode cX9_init 185 = .ok (.bipush 7, 2) := by decide +kernel
theorem dX9_init_187 : decode cX9_init 187 = .ok (.invokevirtual 80, 3) := by decide +kernel
theorem dX9_init_190 : decode cX9_init 190 = .ok (.return_, 1) := by decide +kernel
theorem dX9_in_0 : decode cX9_in 0 = .ok (.lload_n 0, 1) := by decide +kernel
theorem dX9_in_1 : decode cX9_in 1 = .ok (.lload_n 2, 1) := by decide +kernel
theorem dX9_in_2 : decode cX9_in 2 = .ok (.lcmp, 1) := by decide +kernel
theorem dX9_in_3 : decode cX9_in 3 = .ok (.ifCond .lt 14, 3) := by decide +kernel
theorem dX9_in_6 : decode cX9_in 6 = .ok (.lload_n 0, 1) := by decide +kernel
theorem dX9_in_7 : decode cX9_in 7 = .ok (.lload 4, 2) := by decide +kernel
theorem dX9_in_9 : decode cX9_in 9 = .ok (.lcmp, 1) := by decide +kernel
theorem dX9_in_10 : decode cX9_in 10 = .ok (.ifCond .gt 7, 3) := by decide +kernel
theorem dX9_in_13 : decode cX9_in 13 = .ok (.iconst 1, 1) := by decide +kernel
theorem dX9_in_14 : decode cX9_in 14 = .ok (.goto 4, 3) := by decide +kernel
theorem dX9_in_17 : decode cX9_in 17 = .ok (.iconst 0, 1) := by decide +kernel
theorem dX9_in_18 : decode cX9_in 18 = .ok (.ireturn, 1) := by decide +kernel
theorem dX9_ones_0 : decode cX9_ones 0 = .ok (.iconst 0, 1) := by decide +kernel
theorem dX9_ones_1 : decode cX9_ones 1 = .ok (.istore_n 1, 1) := by decide +kernel
theorem dX9_ones_2 : decode cX9_ones 2 = .ok (.iload_n 0, 1) := by decide +kernel
theorem dX9_ones_3 : decode cX9_ones 3 = .ok (.istore_n 2, 1) := by decide +kernel
theorem dX9_ones_4 : decode cX9_ones 4 = .ok (.iload_n 2, 1) := by decide +kernel
theorem dX9_ones_5 : decode cX9_ones 5 = .ok (.ifCond .eq 15, 3) := by decide +kernel
theorem dX9_ones_8 : decode cX9_ones 8 = .ok (.iinc 1 1, 3) := by decide +kernel
theorem dX9_ones_11 : decode cX9_ones 11 = .ok (.iload_n 2, 1) := by decide +kernel
theorem dX9_ones_12 : decode cX9_ones 12 = .ok (.iload_n 2, 1) := by decide +kernel
theorem dX9_ones_13 : decode cX9_ones 13 = .ok (.iconst 1, 1) := by decide +kernel
theorem dX9_ones_14 : decode cX9_ones 14 = .ok (.isub, 1) := by decide +kernel
theorem dX9_ones_15 : decode cX9_ones 15 = .ok (.iand, 1) := by decide +kernel
theorem dX9_ones_16 : decode cX9_ones 16 = .ok (.istore_n 2, 1) := by decide +kernel
theorem dX9_ones_17 : decode cX9_ones 17 = .ok (.goto (-13), 3) := by decide +kernel
theorem dX9_ones_20 : decode cX9_ones 20 = .ok (.iload_n 1, 1) := by decide +kernel
theorem dX9_ones_21 : decode cX9_ones 21 = .ok (.ireturn, 1) := by decide +kernel
theorem dX9_at_0 : decode cX9_at 0 = .ok (.bipush 7, 2) := by decide +kernel
theorem dX9_at_2 : decode cX9_at 2 = .ok (.iload_n 0, 1) := by decide +kernel
theorem dX9_at_3 : decode cX9_at 3 = .ok (.imul, 1) := by decide +kernel
theorem dX9_at_4 : decode cX9_at 4 = .ok (.iload_n 1, 1) := by decide +kernel
theorem dX9_at_5 : decode cX9_at 5 = .ok (.iadd, 1) := by decide +kernel
theorem dX9_at_6 : decode cX9_at 6 = .ok (.ireturn, 1) := by decide +kernel
theorem dX9_begin_0 : decode cX9_begin 0 = .ok (.aload_n 0, 1) := by decide +kernel
theorem dX9_begin_1 : decode cX9_begin 1 = .ok (.iload_n 1, 1) := by decide +kernel
theorem dX9_begin_2 : decode cX9_begin 2 = .ok (.putfield 84, 3) := by decide +kernel
theorem dX9_begin_5 : decode cX9_begin 5 = .ok (.iconst 0, 1) := by decide +kernel
theorem dX9_begin_6 : decode cX9_begin 6 = .ok (.istore_n 2, 1) := by decide +kernel
theorem dX9_begin_7 : decode cX9_begin 7 = .ok (.iload_n 2, 1) := by decide +kernel
theorem dX9_begin_8 : decode cX9_begin 8 = .ok (.bipush 7, 2) := by decide +kernel
theorem dX9_begin_10 : decode cX9_begin 10 = .ok (.if_icmp .ge 70, 3) := by decide +kernel
theorem dX9_begin_13 : decode cX9_begin 13 = .ok (.aload_n 0, 1) := by decide +kernel
theorem dX9_begin_14 : decode cX9_begin 14 = .ok (.getfield 7, 3) := by decide +kernel
theorem dX9_begin_17 : decode cX9_begin 17 = .ok (.iconst 0, 1) := by decide +kernel
theorem dX9_begin_18 : decode cX9_begin 18 = .ok (.iload_n 2, 1) := by decide +kernel
theorem dX9_begin_19 : decode cX9_begin 19 = .ok (.invokestatic 88, 3) := by decide +kernel
theorem dX9_begin_22 : decode cX9_begin 22 = .ok (.iload_n 2, 1) := by decide +kernel
theorem dX9_begin_23 : decode cX9_begin 23 = .ok (.iastore, 1) := by decide +kernel
theorem dX9_begin_24 : decode cX9_begin 24 = .ok (.aload_n 0, 1) := by decide +kernel
theorem dX9_begin_25 : decode cX9_begin 25 = .ok (.getfield 7, 3) := by decide +kernel
theorem dX9_begin_28 : decode cX9_begin 28 = .ok (.iconst 1, 1) := by decide +kernel
theorem dX9_begin_29 : decode cX9_begin 29 = .ok (.iload_n 2, 1) := by decide +kernel
theorem dX9_begin_30 : decode cX9_begin 30 = .ok (.invokestatic 88, 3) := by decide +kernel
theorem dX9_begin_33 : decode cX9_begin 33 = .ok (.bipush 9, 2) := by decide +kernel
theorem dX9_begin_35 : decode cX9_begin 35 = .ok (.iastore, 1) := by decide +kernel
theorem dX9_begin_36 : decode cX9_begin 36 = .ok (.aload_n 0, 1) := by decide +kernel
theorem dX9_begin_37 : decode cX9_begin 37 = .ok (.getfield 7, 3) := by decide +kernel
theorem dX9_begin_40 : decode cX9_begin 40 = .ok (.iconst 2, 1) := by decide +kernel
theorem dX9_begin_41 : decode cX9_begin 41 = .ok (.iload_n 2, 1) := by decide +kernel
theorem dX9_begin_42 : decode cX9_begin 42 = .ok (.invokestatic 88, 3) := by decide +kernel
theorem dX9_begin_45 : decode cX9_begin 45 = .ok (.iconst 0, 1) := by decide +kernel
theorem dX9_begin_46 : decode cX9_begin 46 = .ok (.iastore, 1) := by decide +kernel
theorem dX9_begin_47 : decode cX9_begin 47 = .ok (.aload_n 0, 1) := by decide +kernel
theorem dX9_begin_48 : decode cX9_begin 48 = .ok (.getfield 7, 3) := by decide +kernel
theorem dX9_begin_51 : decode cX9_begin 51 = .ok (.iconst 3, 1) := by decide +kernel
theorem dX9_begin_52 : decode cX9_begin 52 = .ok (.iload_n 2, 1) := by decide +kernel
theorem dX9_begin_53 : decode cX9_begin 53 = .ok (.invokestatic 88, 3) := by decide +kernel
theorem dX9_begin_56 : decode cX9_begin 56 = .ok (.bipush 9, 2) := by decide +kernel
theorem dX9_begin_58 : decode cX9_begin 58 = .ok (.iastore, 1) := by decide +kernel
theorem dX9_begin_59 : decode cX9_begin 59 = .ok (.aload_n 0, 1) := by decide +kernel
theorem dX9_begin_60 : decode cX9_begin 60 = .ok (.getfield 13, 3) := by decide +kernel
theorem dX9_begin_63 : decode cX9_begin 63 = .ok (.iload_n 2, 1) := by decide +kernel
theorem dX9_begin_64 : decode cX9_begin 64 = .ok (.iconst 0, 1) := by decide +kernel
theorem dX9_begin_65 : decode cX9_begin 65 = .ok (.iastore, 1) := by decide +kernel
theorem dX9_begin_66 : decode cX9_begin 66 = .ok (.aload_n 0, 1) := by decide +kernel
theorem dX9_begin_67 : decode cX9_begin 67 = .ok (.getfield 16, 3) := by decide +kernel
theorem dX9_begin_70 : decode cX9_begin 70 = .ok (.iload_n 2, 1) := by decide +kernel
theorem dX9_begin_71 : decode cX9_begin 71 = .ok (.bipush (-6), 2) := by decide +kernel
theorem dX9_begin_73 : decode cX9_begin 73 = .ok (.iastore, 1) := by decide +kernel
theorem dX9_begin_74 : decode cX9_begin 74 = .ok (.iinc 2 1, 3) := by decide +kernel
theorem dX9_begin_77 : decode cX9_begin 77 = .ok (.goto (-70), 3) := by decide +kernel
theorem dX9_begin_80 : decode cX9_begin 80 = .ok (.return_, 1) := by decide +kernel
theorem dX9_isThing_0 : decode cX9_isThing 0 = .ok (.iload_n 1, 1) := by decide +kernel
theorem dX9_isThing_1 : decode cX9_isThing 1 = .ok (.i2l, 1) := by decide +kernel
theorem dX9_isThing_2 : decode cX9_isThing 2 = .ok (.lconst 0, 1) := by decide +kernel
theorem dX9_isThing_3 : decode cX9_isThing 3 = .ok (.aload_n 0, 1) := by decide +kernel
theorem dX9_isThing_4 : decode cX9_isThing 4 = .ok (.getfield 84, 3) := by decide +kernel
theorem dX9_isThing_7 : decode cX9_isThing 7 = .ok (.iconst 1, 1) := by decide +kernel
theorem dX9_isThing_8 : decode cX9_isThing 8 = .ok (.isub, 1) := by decide +kernel
theorem dX9_isThing_9 : decode cX9_isThing 9 = .ok (.i2l, 1) := by decide +kernel
theorem dX9_isThing_10 : decode cX9_isThing 10 = .ok (.invokestatic 92, 3) := by decide +kernel
theorem dX9_isThing_13 : decode cX9_isThing 13 = .ok (.ireturn, 1) := by decide +kernel
theorem dX9_isThere_0 : decode cX9_isThere 0 = .ok (.iload_n 1, 1) := by decide +kernel
theorem dX9_isThere_1 : decode cX9_isThere 1 = .ok (.i2l, 1) := by decide +kernel
theorem dX9_isThere_2 : decode cX9_isThere 2 = .ok (.lconst 0, 1) := by decide +kernel
theorem dX9_isThere_3 : decode cX9_isThere 3 = .ok (.ldc2_w 96, 3) := by decide +kernel
theorem dX9_isThere_6 : decode cX9_isThere 6 = .ok (.invokestatic 92, 3) := by decide +kernel
theorem dX9_isThere_9 : decode cX9_isThere 9 = .ok (.ifCond .eq 19, 3) := by decide +kernel
theorem dX9_isThere_12 : decode cX9_isThere 12 = .ok (.aload_n 0, 1) := by decide +kernel
theorem dX9_isThere_13 : decode cX9_isThere 13 = .ok (.getfield 98, 3) := by decide +kernel
theorem dX9_isThere_16 : decode cX9_isThere 16 = .ok (.iload_n 1, 1) := by decide +kernel
theorem dX9_isThere_17 : decode cX9_isThere 17 = .ok (.ishr, 1) := by decide +kernel
theorem dX9_isThere_18 : decode cX9_isThere 18 = .ok (.iconst 1, 1) := by decide +kernel
theorem dX9_isThere_19 : decode cX9_isThere 19 = .ok (.iand, 1) := by decide +kernel
theorem dX9_isThere_20 : decode cX9_isThere 20 = .ok (.iconst 1, 1) := by decide +kernel
theorem dX9_isThere_21 : decode cX9_isThere 21 = .ok (.if_icmp .ne 7, 3) := by decide +kernel
theorem dX9_isThere_24 : decode cX9_isThere 24 = .ok (.iconst 1, 1) := by decide +kernel
theorem dX9_isThere_25 : decode cX9_isThere 25 = .ok (.goto 4, 3) := by decide +kernel
theorem dX9_isThere_28 : decode cX9_isThere 28 = .ok (.iconst 0, 1) := by decide +kernel
theorem dX9_isThere_29 : decode cX9_isThere 29 = .ok (.ireturn, 1) := by decide +kernel
theorem dX9_things_0 : decode cX9_things 0 = .ok (.iload_n 1, 1) := by decide +kernel
theorem dX9_things_1 : decode cX9_things 1 = .ok (.i2l, 1) := by decide +kernel
theorem dX9_things_2 : decode cX9_things 2 = .ok (.lconst 1, 1) := by decide +kernel
theorem dX9_things_3 : decode cX9_things 3 = .ok (.ldc2_w 101, 3) := by decide +kernel
theorem dX9_things_6 : decode cX9_things 6 = .ok (.invokestatic 92, 3) := by decide +kernel
theorem dX9_things_9 : decode cX9_things 9 = .ok (.ifCond .ne 6, 3) := by decide +kernel
theorem dX9_things_12 : decode cX9_things 12 = .ok (.bipush (-2), 2) := by decide +kernel
theorem dX9_things_14 : decode cX9_things 14 = .ok (.ireturn, 1) := by decide +kernel
theorem dX9_things_15 : decode cX9_things 15 = .ok (.aload_n 0, 1) := by decide +kernel
theorem dX9_things_16 : decode cX9_things 16 = .ok (.getfield 84, 3) := by decide +kernel
theorem dX9_things_19 : decode cX9_things 19 = .ok (.istore_n 2, 1) := by decide +kernel
theorem dX9_things_20 : decode cX9_things 20 = .ok (.aload_n 0, 1) := by decide +kernel
theorem dX9_things_21 : decode cX9_things 21 = .ok (.iload_n 1, 1) := by decide +kernel
theorem dX9_things_22 : decode cX9_things 22 = .ok (.invokevirtual 80, 3) := by decide +kernel
theorem dX9_things_25 : decode cX9_things 25 = .ok (.iload_n 2, 1) := by decide +kernel
theorem dX9_things_26 : decode cX9_things 26 = .ok (.ireturn, 1) := by decide +kernel
theorem dX9_thing_0 : decode cX9_thing 0 = .ok (.aload_n 0, 1) := by decide +kernel
theorem dX9_thing_1 : decode cX9_thing 1 = .ok (.iload_n 1, 1) := by decide +kernel
theorem dX9_thing_2 : decode cX9_thing 2 = .ok (.invokevirtual 103, 3) := by decide +kernel
theorem dX9_thing_5 : decode cX9_thing 5 = .ok (.ifCond .ne 5, 3) := by decide +kernel
theorem dX9_thing_8 : decode cX9_thing 8 = .ok (.iconst (-1), 1) := by decide +kernel
theorem dX9_thing_9 : decode cX9_thing 9 = .ok (.ireturn, 1) := by decide +kernel
theorem dX9_thing_10 : decode cX9_thing 10 = .ok (.iload_n 2, 1) := by decide +kernel
theorem dX9_thing_11 : decode cX9_thing 11 = .ok (.i2l, 1) := by decide +kernel
theorem dX9_thing_12 : decode cX9_thing 12 = .ok (.lconst 0, 1) := by decide +kernel
theorem dX9_thing_13 : decode cX9_thing 13 = .ok (.ldc2_w 96, 3) := by decide +kernel
theorem dX9_thing_16 : decode cX9_thing 16 = .ok (.invokestatic 92, 3) := by decide +kernel
theorem dX9_thing_19 : decode cX9_thing 19 = .ok (.ifCond .eq 24, 3) := by decide +kernel
theorem dX9_thing_22 : decode cX9_thing 22 = .ok (.iload_n 3, 1) := by decide +kernel
theorem dX9_thing_23 : decode cX9_thing 23 = .ok (.i2l, 1) := by decide +kernel
theorem dX9_thing_24 : decode cX9_thing 24 = .ok (.lconst 0, 1) := by decide +kernel
theorem dX9_thing_25 : decode cX9_thing 25 = .ok (.iload_n 2, 1) := by decide +kernel
theorem dX9_thing_26 : decode cX9_thing 26 = .ok (.iconst 2, 1) := by decide +kernel
theorem dX9_thing_27 : decode cX9_thing 27 = .ok (.if_icmp .ne 7, 3) := by decide +kernel
theorem dX9_thing_30 : decode cX9_thing 30 = .ok (.lconst 1, 1) := by decide +kernel
theorem dX9_thing_31 : decode cX9_thing 31 = .ok (.goto 6, 3) := by decide +kernel
theorem dX9_thing_34 : decode cX9_thing 34 = .ok (.ldc2_w 107, 3) := by decide +kernel
theorem dX9_thing_37 : decode cX9_thing 37 = .ok (.invokestatic 92, 3) := by decide +kernel
theorem dX9_thing_40 : decode cX9_thing 40 = .ok (.ifCond .ne 6, 3) := by decide +kernel
theorem dX9_thing_43 : decode cX9_thing 43 = .ok (.bipush (-2), 2) := by decide +kernel
theorem dX9_thing_45 : decode cX9_thing 45 = .ok (.ireturn, 1) := by decide +kernel
theorem dX9_thing_46 : decode cX9_thing 46 = .ok (.iload_n 2, 1) := by decide +kernel
theorem dX9_thing_47 : decode cX9_thing 47 = .ok (.iconst 3, 1) := by decide +kernel
theorem dX9_thing_48 : decode cX9_thing 48 = .ok (.if_icmp .ne 20, 3) := by decide +kernel
theorem dX9_thing_51 : decode cX9_thing 51 = .ok (.iload_n 3, 1) := by decide +kernel
theorem dX9_thing_52 : decode cX9_thing 52 = .ok (.aload_n 0, 1) := by decide +kernel
theorem dX9_thing_53 : decode cX9_thing 53 = .ok (.getfield 7, 3) := by decide +kernel
theorem dX9_thing_56 : decode cX9_thing 56 = .ok (.iconst 1, 1) := by decide +kernel
theorem dX9_thing_57 : decode cX9_thing 57 = .ok (.iload_n 1, 1) := by decide +kernel
theorem dX9_thing_58 : decode cX9_thing 58 = .ok (.invokestatic 88, 3) := by decide +kernel
theorem dX9_thing_61 : decode cX9_thing 61 = .ok (.iaload, 1) := by decide +kernel
theorem dX9_thing_62 : decode cX9_thing 62 = .ok (.if_icmp .le 6, 3) := by decide +kernel
theorem dX9_thing_65 : decode cX9_thing 65 = .ok (.bipush (-3), 2) := by decide +kernel
theorem dX9_thing_67 : decode cX9_thing 67 = .ok (.ireturn, 1) := by decide +kernel
theorem dX9_thing_68 : decode cX9_thing 68 = .ok (.aload_n 0, 1) := by decide +kernel
theorem dX9_thing_69 : decode cX9_thing 69 = .ok (.getfield 7, 3) := by decide +kernel
theorem dX9_thing_72 : decode cX9_thing 72 = .ok (.iload_n 2, 1) := by decide +kernel
theorem dX9_thing_73 : decode cX9_thing 73 = .ok (.iload_n 1, 1) := by decide +kernel
theorem dX9_thing_74 : decode cX9_thing 74 = .ok (.invokestatic 88, 3) := by decide +kernel
theorem dX9_thing_77 : decode cX9_thing 77 = .ok (.iaload, 1) := by decide +kernel
theorem dX9_thing_78 : decode cX9_thing 78 = .ok (.istore 4, 2) := by decide +kernel
theorem dX9_thing_80 : decode cX9_thing 80 = .ok (.aload_n 0, 1) := by decide +kernel
theorem dX9_thing_81 : decode cX9_thing 81 = .ok (.getfield 7, 3) := by decide +kernel
theorem dX9_thing_84 : decode cX9_thing 84 = .ok (.iload_n 2, 1) := by decide +kernel
theorem dX9_thing_85 : decode cX9_thing 85 = .ok (.iload_n 1, 1) := by decide +kernel
theorem dX9_thing_86 : decode cX9_thing 86 = .ok (.invokestatic 88, 3) := by decide +kernel
theorem dX9_thing_89 : decode cX9_thing 89 = .ok (.iload_n 3, 1) := by decide +kernel
theorem dX9_thing_90 : decode cX9_thing 90 = .ok (.iastore, 1) := by decide +kernel
theorem dX9_thing_91 : decode cX9_thing 91 = .ok (.iload_n 2, 1) := by decide +kernel
theorem dX9_thing_92 : decode cX9_thing 92 = .ok (.iconst 1, 1) := by decide +kernel
theorem dX9_thing_93 : decode cX9_thing 93 = .ok (.if_icmp .ne 21, 3) := by decide +kernel
theorem dX9_thing_96 : decode cX9_thing 96 = .ok (.aload_n 0, 1) := by decide +kernel
theorem dX9_thing_97 : decode cX9_thing 97 = .ok (.getfield 7, 3) := by decide +kernel
theorem dX9_thing_100 : decode cX9_thing 100 = .ok (.iconst 3, 1) := by decide +kernel
theorem dX9_thing_101 : decode cX9_thing 101 = .ok (.iload_n 1, 1) := by decide +kernel
theorem dX9_thing_102 : decode cX9_thing 102 = .ok (.invokestatic 88, 3) := by decide +kernel
theorem dX9_thing_105 : decode cX9_thing 105 = .ok (.iload_n 3, 1) := by decide +kernel
theorem dX9_thing_106 : decode cX9_thing 106 = .ok (.iastore, 1) := by decide +kernel
theorem dX9_thing_107 : decode cX9_thing 107 = .ok (.aload_n 0, 1) := by decide +kernel
theorem dX9_thing_108 : decode cX9_thing 108 = .ok (.getfield 13, 3) := by decide +kernel
theorem dX9_thing_111 : decode cX9_thing 111 = .ok (.iload_n 1, 1) := by decide +kernel
theorem dX9_thing_112 : decode cX9_thing 112 = .ok (.iconst 0, 1) := by decide +kernel
theorem dX9_thing_113 : decode cX9_thing 113 = .ok (.iastore, 1) := by decide +kernel
theorem dX9_thing_114 : decode cX9_thing 114 = .ok (.iload 4, 2) := by decide +kernel
theorem dX9_thing_116 : decode cX9_thing 116 = .ok (.ireturn, 1) := by decide +kernel
theorem dX9_guest_0 : decode cX9_guest 0 = .ok (.iload_n 1, 1) := by decide +kernel
theorem dX9_guest_1 : decode cX9_guest 1 = .ok (.i2l, 1) := by decide +kernel
theorem dX9_guest_2 : decode cX9_guest 2 = .ok (.lconst 0, 1) := by decide +kernel
theorem dX9_guest_3 : decode cX9_guest 3 = .ok (.ldc2_w 96, 3) := by decide +kernel
theorem dX9_guest_6 : decode cX9_guest 6 = .ok (.invokestatic 92, 3) := by decide +kernel
theorem dX9_guest_9 : decode cX9_guest 9 = .ok (.ifCond .ne 5, 3) := by decide +kernel
theorem dX9_guest_12 : decode cX9_guest 12 = .ok (.iconst (-1), 1) := by decide +kernel
theorem dX9_guest_13 : decode cX9_guest 13 = .ok (.ireturn, 1) := by decide +kernel
theorem dX9_guest_14 : decode cX9_guest 14 = .ok (.iload_n 2, 1) := by decide +kernel
theorem dX9_guest_15 : decode cX9_guest 15 = .ok (.i2l, 1) := by decide +kernel
theorem dX9_guest_16 : decode cX9_guest 16 = .ok (.lconst 0, 1) := by decide +kernel
theorem dX9_guest_17 : decode cX9_guest 17 = .ok (.ldc2_w 107, 3) := by decide +kernel
theorem dX9_guest_20 : decode cX9_guest 20 = .ok (.invokestatic 92, 3) := by decide +kernel
theorem dX9_guest_23 : decode cX9_guest 23 = .ok (.ifCond .eq 41, 3) := by decide +kernel
theorem dX9_guest_26 : decode cX9_guest 26 = .ok (.iload_n 3, 1) := by decide +kernel
theorem dX9_guest_27 : decode cX9_guest 27 = .ok (.i2l, 1) := by decide +kernel
theorem dX9_guest_28 : decode cX9_guest 28 = .ok (.lconst 1, 1) := by decide +kernel
theorem dX9_guest_29 : decode cX9_guest 29 = .ok (.ldc2_w 107, 3) := by decide +kernel
theorem dX9_guest_32 : decode cX9_guest 32 = .ok (.invokestatic 92, 3) := by decide +kernel
theorem dX9_guest_35 : decode cX9_guest 35 = .ok (.ifCond .eq 29, 3) := by decide +kernel
theorem dX9_guest_38 : decode cX9_guest 38 = .ok (.iload 4, 2) := by decide +kernel
theorem dX9_guest_40 : decode cX9_guest 40 = .ok (.i2l, 1) := by decide +kernel
theorem dX9_guest_41 : decode cX9_guest 41 = .ok (.lconst 0, 1) := by decide +kernel
theorem dX9_guest_42 : decode cX9_guest 42 = .ok (.ldc2_w 96, 3) := by decide +kernel
theorem dX9_guest_45 : decode cX9_guest 45 = .ok (.invokestatic 92, 3) := by decide +kernel
theorem dX9_guest_48 : decode cX9_guest 48 = .ok (.ifCond .eq 16, 3) := by decide +kernel
theorem dX9_guest_51 : decode cX9_guest 51 = .ok (.iload 5, 2) := by decide +kernel
theorem dX9_guest_53 : decode cX9_guest 53 = .ok (.i2l, 1) := by decide +kernel
theorem dX9_guest_54 : decode cX9_guest 54 = .ok (.lconst 1, 1) := by decide +kernel
theorem dX9_guest_55 : decode cX9_guest 55 = .ok (.ldc2_w 107, 3) := by decide +kernel
theorem dX9_guest_58 : decode cX9_guest 58 = .ok (.invokestatic 92, 3) := by decide +kernel
theorem dX9_guest_61 : decode cX9_guest 61 = .ok (.ifCond .ne 6, 3) := by decide +kernel
theorem dX9_guest_64 : decode cX9_guest 64 = .ok (.bipush (-2), 2) := by decide +kernel
theorem dX9_guest_66 : decode cX9_guest 66 = .ok (.ireturn, 1) := by decide +kernel
theorem dX9_guest_67 : decode cX9_guest 67 = .ok (.aload_n 0, 1) := by decide +kernel
theorem dX9_guest_68 : decode cX9_guest 68 = .ok (.getfield 19, 3) := by decide +kernel
theorem dX9_guest_71 : decode cX9_guest 71 = .ok (.iload_n 1, 1) := by decide +kernel
theorem dX9_guest_72 : decode cX9_guest 72 = .ok (.iload_n 2, 1) := by decide +kernel
theorem dX9_guest_73 : decode cX9_guest 73 = .ok (.iastore, 1) := by decide +kernel
theorem dX9_guest_74 : decode cX9_guest 74 = .ok (.aload_n 0, 1) := by decide +kernel
theorem dX9_guest_75 : decode cX9_guest 75 = .ok (.getfield 22, 3) := by decide +kernel
theorem dX9_guest_78 : decode cX9_guest 78 = .ok (.iload_n 1, 1) := by decide +kernel
theorem dX9_guest_79 : decode cX9_guest 79 = .ok (.iload_n 3, 1) := by decide +kernel
theorem dX9_guest_80 : decode cX9_guest 80 = .ok (.iastore, 1) := by decide +kernel
theorem dX9_guest_81 : decode cX9_guest 81 = .ok (.aload_n 0, 1) := by decide +kernel
theorem dX9_guest_82 : decode cX9_guest 82 = .ok (.getfield 25, 3) := by decide +kernel
theorem dX9_guest_85 : decode cX9_guest 85 = .ok (.iload_n 1, 1) := by decide +kernel
theorem dX9_guest_86 : decode cX9_guest 86 = .ok (.iload 4, 2) := by decide +kernel
theorem dX9_guest_88 : decode cX9_guest 88 = .ok (.iastore, 1) := by decide +kernel
theorem dX9_guest_89 : decode cX9_guest 89 = .ok (.aload_n 0, 1) := by decide +kernel
theorem dX9_guest_90 : decode cX9_guest 90 = .ok (.getfield 28, 3) := by decide +kernel
theorem dX9_guest_93 : decode cX9_guest 93 = .ok (.iload_n 1, 1) := by decide +kernel
theorem dX9_guest_94 : decode cX9_guest 94 = .ok (.iload 5, 2) := by decide +kernel
theorem dX9_guest_96 : decode cX9_guest 96 = .ok (.iastore, 1) := by decide +kernel
theorem dX9_guest_97 : decode cX9_guest 97 = .ok (.aload_n 0, 1) := by decide +kernel
theorem dX9_guest_98 : decode cX9_guest 98 = .ok (.dup, 1) := by decide +kernel
theorem dX9_guest_99 : decode cX9_guest 99 = .ok (.getfield 98, 3) := by decide +kernel
theorem dX9_guest_102 : decode cX9_guest 102 = .ok (.iconst 1, 1) := by decide +kernel
theorem dX9_guest_103 : decode cX9_guest 103 = .ok (.iload_n 1, 1) := by decide +kernel
theorem dX9_guest_104 : decode cX9_guest 104 = .ok (.ishl, 1) := by decide +kernel
theorem dX9_guest_105 : decode cX9_guest 105 = .ok (.ior, 1) := by decide +kernel
theorem dX9_guest_106 : decode cX9_guest 106 = .ok (.putfield 98, 3) := by decide +kernel
theorem dX9_guest_109 : decode cX9_guest 109 = .ok (.aload_n 0, 1) := by decide +kernel
theorem dX9_guest_110 : decode cX9_guest 110 = .ok (.getfield 98, 3) := by decide +kernel
theorem dX9_guest_113 : decode cX9_guest 113 = .ok (.invokestatic 109, 3) := by decide +kernel
theorem dX9_guest_116 : decode cX9_guest 116 = .ok (.ireturn, 1) := by decide +kernel
theorem dX9_leave_0 : decode cX9_leave 0 = .ok (.aload_n 0, 1) := by decide +kernel
theorem dX9_leave_1 : decode cX9_leave 1 = .ok (.iload_n 1, 1) := by decide +kernel
theorem dX9_leave_2 : decode cX9_leave 2 = .ok (.invokevirtual 113, 3) := by decide +kernel
theorem dX9_leave_5 : decode cX9_leave 5 = .ok (.ifCond .ne 5, 3) := by decide +kernel
theorem dX9_leave_8 : decode cX9_leave 8 = .ok (.iconst (-1), 1) := by decide +kernel
theorem dX9_leave_9 : decode cX9_leave 9 = .ok (.ireturn, 1) := by decide +kernel
theorem dX9_leave_10 : decode cX9_leave 10 = .ok (.aload_n 0, 1) := by decide +kernel
theorem dX9_leave_11 : decode cX9_leave 11 = .ok (.dup, 1) := by decide +kernel
theorem dX9_leave_12 : decode cX9_leave 12 = .ok (.getfield 98, 3) := by decide +kernel
theorem dX9_leave_15 : decode cX9_leave 15 = .ok (.iconst 1, 1) := by decide +kernel
theorem dX9_leave_16 : decode cX9_leave 16 = .ok (.iload_n 1, 1) := by decide +kernel
theorem dX9_leave_17 : decode cX9_leave 17 = .ok (.ishl, 1) := by decide +kernel
theorem dX9_leave_18 : decode cX9_leave 18 = .ok (.iconst (-1), 1) := by decide +kernel
theorem dX9_leave_19 : decode cX9_leave 19 = .ok (.ixor, 1) := by decide +kernel
theorem dX9_leave_20 : decode cX9_leave 20 = .ok (.iand, 1) := by decide +kernel
theorem dX9_leave_21 : decode cX9_leave 21 = .ok (.putfield 98, 3) := by decide +kernel
theorem dX9_leave_24 : decode cX9_leave 24 = .ok (.aload_n 0, 1) := by decide +kernel
theorem dX9_leave_25 : decode cX9_leave 25 = .ok (.getfield 98, 3) := by decide +kernel
theorem dX9_leave_28 : decode cX9_leave 28 = .ok (.invokestatic 109, 3) := by decide +kernel
theorem dX9_leave_31 : decode cX9_leave 31 = .ok (.ireturn, 1) := by decide +kernel
theorem dX9_say_0 : decode cX9_say 0 = .ok (.iload_n 1, 1) := by decide +kernel
theorem dX9_say_1 : decode cX9_say 1 = .ok (.i2l, 1) := by decide +kernel
theorem dX9_say_2 : decode cX9_say 2 = .ok (.ldc2_w 116, 3) := by decide +kernel
theorem dX9_say_5 : decode cX9_say 5 = .ok (.ldc2_w 118, 3) := by decide +kernel
theorem dX9_say_8 : decode cX9_say 8 = .ok (.invokestatic 92, 3) := by decide +kernel
theorem dX9_say_11 : decode cX9_say 11 = .ok (.ifCond .ne 6, 3) := by decide +kernel
theorem dX9_say_14 : decode cX9_say 14 = .ok (.bipush (-2), 2) := by decide +kernel
theorem dX9_say_16 : decode cX9_say 16 = .ok (.ireturn, 1) := by decide +kernel
theorem dX9_say_17 : decode cX9_say 17 = .ok (.aload_n 0, 1) := by decide +kernel
theorem dX9_say_18 : decode cX9_say 18 = .ok (.getfield 120, 3) := by decide +kernel
theorem dX9_say_21 : decode cX9_say 21 = .ok (.bipush 40, 2) := by decide +kernel
theorem dX9_say_23 : decode cX9_say 23 = .ok (.if_icmp .ne 6, 3) := by decide +kernel
theorem dX9_say_26 : decode cX9_say 26 = .ok (.bipush (-4), 2) := by decide +kernel
theorem dX9_say_28 : decode cX9_say 28 = .ok (.ireturn, 1) := by decide +kernel
theorem dX9_say_29 : decode cX9_say 29 = .ok (.aload_n 0, 1) := by decide +kernel
theorem dX9_say_30 : decode cX9_say 30 = .ok (.getfield 31, 3) := by decide +kernel
theorem dX9_say_33 : decode cX9_say 33 = .ok (.aload_n 0, 1) := by decide +kernel
theorem dX9_say_34 : decode cX9_say 34 = .ok (.getfield 120, 3) := by decide +kernel
theorem dX9_say_37 : decode cX9_say 37 = .ok (.iload_n 1, 1) := by decide +kernel
theorem dX9_say_38 : decode cX9_say 38 = .ok (.iastore, 1) := by decide +kernel
theorem dX9_say_39 : decode cX9_say 39 = .ok (.aload_n 0, 1) := by decide +kernel
theorem dX9_say_40 : decode cX9_say 40 = .ok (.dup, 1) := by decide +kernel
theorem dX9_say_41 : decode cX9_say 41 = .ok (.getfield 120, 3) := by decide +kernel
theorem dX9_say_44 : decode cX9_say 44 = .ok (.iconst 1, 1) := by decide +kernel
theorem dX9_say_45 : decode cX9_say 45 = .ok (.iadd, 1) := by decide +kernel
theorem dX9_say_46 : decode cX9_say 46 = .ok (.putfield 120, 3) := by decide +kernel
theorem dX9_say_49 : decode cX9_say 49 = .ok (.aload_n 0, 1) := by decide +kernel
theorem dX9_say_50 : decode cX9_say 50 = .ok (.getfield 120, 3) := by decide +kernel
theorem dX9_say_53 : decode cX9_say 53 = .ok (.ireturn, 1) := by decide +kernel
theorem dX9_wipe_0 : decode cX9_wipe 0 = .ok (.aload_n 0, 1) := by decide +kernel
theorem dX9_wipe_1 : decode cX9_wipe 1 = .ok (.getfield 120, 3) := by decide +kernel
theorem dX9_wipe_4 : decode cX9_wipe 4 = .ok (.istore_n 1, 1) := by decide +kernel
theorem dX9_wipe_5 : decode cX9_wipe 5 = .ok (.aload_n 0, 1) := by decide +kernel
theorem dX9_wipe_6 : decode cX9_wipe 6 = .ok (.iconst 0, 1) := by decide +kernel
theorem dX9_wipe_7 : decode cX9_wipe 7 = .ok (.putfield 120, 3) := by decide +kernel
theorem dX9_wipe_10 : decode cX9_wipe 10 = .ok (.iload_n 1, 1) := by decide +kernel
theorem dX9_wipe_11 : decode cX9_wipe 11 = .ok (.ireturn, 1) := by decide +kernel
theorem dX9_fault_0 : decode cX9_fault 0 = .ok (.iconst 0, 1) := by decide +kernel
theorem dX9_fault_1 : decode cX9_fault 1 = .ok (.istore_n 1, 1) := by decide +kernel
theorem dX9_fault_2 : decode cX9_fault 2 = .ok (.iload_n 1, 1) := by decide +kernel
theorem dX9_fault_3 : decode cX9_fault 3 = .ok (.aload_n 0, 1) := by decide +kernel
theorem dX9_fault_4 : decode cX9_fault 4 = .ok (.getfield 120, 3) := by decide +kernel
theorem dX9_fault_7 : decode cX9_fault 7 = .ok (.if_icmp .ge 49, 3) := by decide +kernel
theorem dX9_fault_10 : decode cX9_fault 10 = .ok (.aload_n 0, 1) := by decide +kernel
theorem dX9_fault_11 : decode cX9_fault 11 = .ok (.getfield 31, 3) := by decide +kernel
theorem dX9_fault_14 : decode cX9_fault 14 = .ok (.iload_n 1, 1) := by decide +kernel
theorem dX9_fault_15 : decode cX9_fault 15 = .ok (.iaload, 1) := by decide +kernel
theorem dX9_fault_16 : decode cX9_fault 16 = .ok (.istore_n 2, 1) := by decide +kernel
theorem dX9_fault_17 : decode cX9_fault 17 = .ok (.iload_n 2, 1) := by decide +kernel
theorem dX9_fault_18 : decode cX9_fault 18 = .ok (.i2l, 1) := by decide +kernel
theorem dX9_fault_19 : decode cX9_fault 19 = .ok (.ldc2_w 123, 3) := by decide +kernel
theorem dX9_fault_22 : decode cX9_fault 22 = .ok (.ldc2_w 125, 3) := by decide +kernel
theorem dX9_fault_25 : decode cX9_fault 25 = .ok (.invokestatic 92, 3) := by decide +kernel
theorem dX9_fault_28 : decode cX9_fault 28 = .ok (.ifCond .ne 22, 3) := by decide +kernel
theorem dX9_fault_31 : decode cX9_fault 31 = .ok (.iload_n 2, 1) := by decide +kernel
theorem dX9_fault_32 : decode cX9_fault 32 = .ok (.bipush 46, 2) := by decide +kernel
theorem dX9_fault_34 : decode cX9_fault 34 = .ok (.if_icmp .eq 16, 3) := by decide +kernel
theorem dX9_fault_37 : decode cX9_fault 37 = .ok (.aload_n 0, 1) := by decide +kernel
theorem dX9_fault_38 : decode cX9_fault 38 = .ok (.iload_n 2, 1) := by decide +kernel
theorem dX9_fault_39 : decode cX9_fault 39 = .ok (.bipush 48, 2) := by decide +kernel
theorem dX9_fault_41 : decode cX9_fault 41 = .ok (.isub, 1) := by decide +kernel
theorem dX9_fault_42 : decode cX9_fault 42 = .ok (.invokevirtual 103, 3) := by decide +kernel
theorem dX9_fault_45 : decode cX9_fault 45 = .ok (.ifCond .ne 5, 3) := by decide +kernel
theorem dX9_fault_48 : decode cX9_fault 48 = .ok (.iload_n 1, 1) := by decide +kernel
theorem dX9_fault_49 : decode cX9_fault 49 = .ok (.ireturn, 1) := by decide +kernel
theorem dX9_fault_50 : decode cX9_fault 50 = .ok (.iinc 1 1, 3) := by decide +kernel
theorem dX9_fault_53 : decode cX9_fault 53 = .ok (.goto (-51), 3) := by decide +kernel
theorem dX9_fault_56 : decode cX9_fault 56 = .ok (.bipush (-6), 2) := by decide +kernel
theorem dX9_fault_58 : decode cX9_fault 58 = .ok (.ireturn, 1) := by decide +kernel
theorem dX9_isPassed_0 : decode cX9_isPassed 0 = .ok (.aload_n 0, 1) := by decide +kernel
theorem dX9_isPassed_1 : decode cX9_isPassed 1 = .ok (.getfield 7, 3) := by decide +kernel
theorem dX9_isPassed_4 : decode cX9_isPassed 4 = .ok (.iconst 2, 1) := by decide +kernel
theorem dX9_isPassed_5 : decode cX9_isPassed 5 = .ok (.iload_n 1, 1) := by decide +kernel
theorem dX9_isPassed_6 : decode cX9_isPassed 6 = .ok (.invokestatic 88, 3) := by decide +kernel
theorem dX9_isPassed_9 : decode cX9_isPassed 9 = .ok (.iaload, 1) := by decide +kernel
theorem dX9_isPassed_10 : decode cX9_isPassed 10 = .ok (.iconst 1, 1) := by decide +kernel
theorem dX9_isPassed_11 : decode cX9_isPassed 11 = .ok (.if_icmp .eq 16, 3) := by decide +kernel
theorem dX9_isPassed_14 : decode cX9_isPassed 14 = .ok (.aload_n 0, 1) := by decide +kernel
theorem dX9_isPassed_15 : decode cX9_isPassed 15 = .ok (.getfield 7, 3) := by decide +kernel
theorem dX9_isPassed_18 : decode cX9_isPassed 18 = .ok (.iconst 3, 1) := by decide +kernel
theorem dX9_isPassed_19 : decode cX9_isPassed 19 = .ok (.iload_n 1, 1) := by decide +kernel
theorem dX9_isPassed_20 : decode cX9_isPassed 20 = .ok (.invokestatic 88, 3) := by decide +kernel
theorem dX9_isPassed_23 : decode cX9_isPassed 23 = .ok (.iaload, 1) := by decide +kernel
theorem dX9_isPassed_24 : decode cX9_isPassed 24 = .ok (.ifCond .ne 7, 3) := by decide +kernel
theorem dX9_isPassed_27 : decode cX9_isPassed 27 = .ok (.iconst 1, 1) := by decide +kernel
theorem dX9_isPassed_28 : decode cX9_isPassed 28 = .ok (.goto 4, 3) := by decide +kernel
theorem dX9_isPassed_31 : decode cX9_isPassed 31 = .ok (.iconst 0, 1) := by decide +kernel
theorem dX9_isPassed_32 : decode cX9_isPassed 32 = .ok (.ireturn, 1) := by decide +kernel
theorem dX9_likes_0 : decode cX9_likes 0 = .ok (.aload_n 0, 1) := by decide +kernel
theorem dX9_likes_1 : decode cX9_likes 1 = .ok (.getfield 7, 3) := by decide +kernel
theorem dX9_likes_4 : decode cX9_likes 4 = .ok (.iconst 0, 1) := by decide +kernel
theorem dX9_likes_5 : decode cX9_likes 5 = .ok (.iload_n 2, 1) := by decide +kernel
theorem dX9_likes_6 : decode cX9_likes 6 = .ok (.invokestatic 88, 3) := by decide +kernel
theorem dX9_likes_9 : decode cX9_likes 9 = .ok (.iaload, 1) := by decide +kernel
theorem dX9_likes_10 : decode cX9_likes 10 = .ok (.aload_n 0, 1) := by decide +kernel
theorem dX9_likes_11 : decode cX9_likes 11 = .ok (.getfield 19, 3) := by decide +kernel
theorem dX9_likes_14 : decode cX9_likes 14 = .ok (.iload_n 1, 1) := by decide +kernel
theorem dX9_likes_15 : decode cX9_likes 15 = .ok (.iaload, 1) := by decide +kernel
theorem dX9_likes_16 : decode cX9_likes 16 = .ok (.isub, 1) := by decide +kernel
theorem dX9_likes_17 : decode cX9_likes 17 = .ok (.istore_n 3, 1) := by decide +kernel
theorem dX9_likes_18 : decode cX9_likes 18 = .ok (.aload_n 0, 1) := by decide +kernel
theorem dX9_likes_19 : decode cX9_likes 19 = .ok (.getfield 25, 3) := by decide +kernel
theorem dX9_likes_22 : decode cX9_likes 22 = .ok (.iload_n 1, 1) := by decide +kernel
theorem dX9_likes_23 : decode cX9_likes 23 = .ok (.iaload, 1) := by decide +kernel
theorem dX9_likes_24 : decode cX9_likes 24 = .ok (.tableswitch 87 0 2 #[28, 39, 50], 28) := by decide +kernel
theorem dX9_likes_52 : decode cX9_likes 52 = .ok (.iload_n 3, 1) := by decide +kernel
theorem dX9_likes_53 : decode cX9_likes 53 = .ok (.ifCond .ge 7, 3) := by decide +kernel
theorem dX9_likes_56 : decode cX9_likes 56 = .ok (.iload_n 3, 1) := by decide +kernel
theorem dX9_likes_57 : decode cX9_likes 57 = .ok (.goto 5, 3) := by decide +kernel
theorem dX9_likes_60 : decode cX9_likes 60 = .ok (.iload_n 3, 1) := by decide +kernel
theorem dX9_likes_61 : decode cX9_likes 61 = .ok (.ineg, 1) := by decide +kernel
theorem dX9_likes_62 : decode cX9_likes 62 = .ok (.ireturn, 1) := by decide +kernel
theorem dX9_likes_63 : decode cX9_likes 63 = .ok (.aload_n 0, 1) := by decide +kernel
theorem dX9_likes_64 : decode cX9_likes 64 = .ok (.getfield 7, 3) := by decide +kernel
theorem dX9_likes_67 : decode cX9_likes 67 = .ok (.iconst 3, 1) := by decide +kernel
theorem dX9_likes_68 : decode cX9_likes 68 = .ok (.iload_n 2, 1) := by decide +kernel
theorem dX9_likes_69 : decode cX9_likes 69 = .ok (.invokestatic 88, 3) := by decide +kernel
theorem dX9_likes_72 : decode cX9_likes 72 = .ok (.iaload, 1) := by decide +kernel
theorem dX9_likes_73 : decode cX9_likes 73 = .ok (.ireturn, 1) := by decide +kernel
theorem dX9_likes_74 : decode cX9_likes 74 = .ok (.aload_n 0, 1) := by decide +kernel
theorem dX9_likes_75 : decode cX9_likes 75 = .ok (.getfield 127, 3) := by decide +kernel
theorem dX9_likes_78 : decode cX9_likes 78 = .ok (.ifCond .ge 7, 3) := by decide +kernel
theorem dX9_likes_81 : decode cX9_likes 81 = .ok (.iconst 0, 1) := by decide +kernel
theorem dX9_likes_82 : decode cX9_likes 82 = .ok (.goto 9, 3) := by decide +kernel
theorem dX9_likes_85 : decode cX9_likes 85 = .ok (.aload_n 0, 1) := by decide +kernel
theorem dX9_likes_86 : decode cX9_likes 86 = .ok (.getfield 127, 3) := by decide +kernel
theorem dX9_likes_89 : decode cX9_likes 89 = .ok (.iconst 1, 1) := by decide +kernel
theorem dX9_likes_90 : decode cX9_likes 90 = .ok (.iadd, 1) := by decide +kernel
theorem dX9_likes_91 : decode cX9_likes 91 = .ok (.istore 4, 2) := by decide +kernel
theorem dX9_likes_93 : decode cX9_likes 93 = .ok (.iload_n 2, 1) := by decide +kernel
theorem dX9_likes_94 : decode cX9_likes 94 = .ok (.iload 4, 2) := by decide +kernel
theorem dX9_likes_96 : decode cX9_likes 96 = .ok (.isub, 1) := by decide +kernel
theorem dX9_likes_97 : decode cX9_likes 97 = .ok (.iconst 2, 1) := by decide +kernel
theorem dX9_likes_98 : decode cX9_likes 98 = .ok (.aload_n 0, 1) := by decide +kernel
theorem dX9_likes_99 : decode cX9_likes 99 = .ok (.getfield 84, 3) := by decide +kernel
theorem dX9_likes_102 : decode cX9_likes 102 = .ok (.imul, 1) := by decide +kernel
theorem dX9_likes_103 : decode cX9_likes 103 = .ok (.iadd, 1) := by decide +kernel
theorem dX9_likes_104 : decode cX9_likes 104 = .ok (.aload_n 0, 1) := by decide +kernel
theorem dX9_likes_105 : decode cX9_likes 105 = .ok (.getfield 84, 3) := by decide +kernel
theorem dX9_likes_108 : decode cX9_likes 108 = .ok (.irem, 1) := by decide +kernel
theorem dX9_likes_109 : decode cX9_likes 109 = .ok (.ineg, 1) := by decide +kernel
theorem dX9_likes_110 : decode cX9_likes 110 = .ok (.ireturn, 1) := by decide +kernel
theorem dX9_likes_111 : decode cX9_likes 111 = .ok (.aload_n 0, 1) := by decide +kernel
theorem dX9_likes_112 : decode cX9_likes 112 = .ok (.getfield 7, 3) := by decide +kernel
theorem dX9_likes_115 : decode cX9_likes 115 = .ok (.iconst 3, 1) := by decide +kernel
theorem dX9_likes_116 : decode cX9_likes 116 = .ok (.iload_n 2, 1) := by decide +kernel
theorem dX9_likes_117 : decode cX9_likes 117 = .ok (.invokestatic 88, 3) := by decide +kernel
theorem dX9_likes_120 : decode cX9_likes 120 = .ok (.iaload, 1) := by decide +kernel
theorem dX9_likes_121 : decode cX9_likes 121 = .ok (.aload_n 0, 1) := by decide +kernel
theorem dX9_likes_122 : decode cX9_likes 122 = .ok (.getfield 22, 3) := by decide +kernel
theorem dX9_likes_125 : decode cX9_likes 125 = .ok (.iload_n 1, 1) := by decide +kernel
theorem dX9_likes_126 : decode cX9_likes 126 = .ok (.iaload, 1) := by decide +kernel
theorem dX9_likes_127 : decode cX9_likes 127 = .ok (.if_icmp .lt 7, 3) := by decide +kernel
theorem dX9_likes_130 : decode cX9_likes 130 = .ok (.iconst 1, 1) := by decide +kernel
theorem dX9_likes_131 : decode cX9_likes 131 = .ok (.goto 4, 3) := by decide +kernel
theorem dX9_likes_134 : decode cX9_likes 134 = .ok (.iconst 0, 1) := by decide +kernel
theorem dX9_likes_135 : decode cX9_likes 135 = .ok (.ireturn, 1) := by decide +kernel
theorem dX9_taken_0 : decode cX9_taken 0 = .ok (.bipush (-6), 2) := by decide +kernel
theorem dX9_taken_2 : decode cX9_taken 2 = .ok (.istore_n 2, 1) := by decide +kernel
theorem dX9_taken_3 : decode cX9_taken 3 = .ok (.iconst 0, 1) := by decide +kernel
theorem dX9_taken_4 : decode cX9_taken 4 = .ok (.istore_n 3, 1) := by decide +kernel
theorem dX9_taken_5 : decode cX9_taken 5 = .ok (.iload_n 3, 1) := by decide +kernel
theorem dX9_taken_6 : decode cX9_taken 6 = .ok (.aload_n 0, 1) := by decide +kernel
theorem dX9_taken_7 : decode cX9_taken 7 = .ok (.getfield 84, 3) := by decide +kernel
theorem dX9_taken_10 : decode cX9_taken 10 = .ok (.if_icmp .ge 54, 3) := by decide +kernel
theorem dX9_taken_13 : decode cX9_taken 13 = .ok (.aload_n 0, 1) := by decide +kernel
theorem dX9_taken_14 : decode cX9_taken 14 = .ok (.iload_n 3, 1) := by decide +kernel
theorem dX9_taken_15 : decode cX9_taken 15 = .ok (.invokevirtual 130, 3) := by decide +kernel
theorem dX9_taken_18 : decode cX9_taken 18 = .ok (.ifCond .ne 7, 3) := by decide +kernel
theorem dX9_taken_21 : decode cX9_taken 21 = .ok (.iconst 1, 1) := by decide +kernel
theorem dX9_taken_22 : decode cX9_taken 22 = .ok (.goto 4, 3) := by decide +kernel
theorem dX9_taken_25 : decode cX9_taken 25 = .ok (.iconst 0, 1) := by decide +kernel
theorem dX9_taken_26 : decode cX9_taken 26 = .ok (.istore 4, 2) := by decide +kernel
theorem dX9_taken_28 : decode cX9_taken 28 = .ok (.iload 4, 2) := by decide +kernel
theorem dX9_taken_30 : decode cX9_taken 30 = .ok (.ifCond .eq 26, 3) := by decide +kernel
theorem dX9_taken_33 : decode cX9_taken 33 = .ok (.iload_n 2, 1) := by decide +kernel
theorem dX9_taken_34 : decode cX9_taken 34 = .ok (.ifCond .lt 18, 3) := by decide +kernel
theorem dX9_taken_37 : decode cX9_taken 37 = .ok (.aload_n 0, 1) := by decide +kernel
theorem dX9_taken_38 : decode cX9_taken 38 = .ok (.iload_n 1, 1) := by decide +kernel
theorem dX9_taken_39 : decode cX9_taken 39 = .ok (.iload_n 3, 1) := by decide +kernel
theorem dX9_taken_40 : decode cX9_taken 40 = .ok (.invokevirtual 133, 3) := by decide +kernel
theorem dX9_taken_43 : decode cX9_taken 43 = .ok (.aload_n 0, 1) := by decide +kernel
theorem dX9_taken_44 : decode cX9_taken 44 = .ok (.iload_n 1, 1) := by decide +kernel
theorem dX9_taken_45 : decode cX9_taken 45 = .ok (.iload_n 2, 1) := by decide +kernel
theorem dX9_taken_46 : decode cX9_taken 46 = .ok (.invokevirtual 133, 3) := by decide +kernel
theorem dX9_taken_49 : decode cX9_taken 49 = .ok (.if_icmp .le 7, 3) := by decide +kernel
theorem dX9_taken_52 : decode cX9_taken 52 = .ok (.iload_n 3, 1) := by decide +kernel
theorem dX9_taken_53 : decode cX9_taken 53 = .ok (.goto 4, 3) := by decide +kernel
theorem dX9_taken_56 : decode cX9_taken 56 = .ok (.iload_n 2, 1) := by decide +kernel
theorem dX9_taken_57 : decode cX9_taken 57 = .ok (.istore_n 2, 1) := by decide +kernel
theorem dX9_taken_58 : decode cX9_taken 58 = .ok (.iinc 3 1, 3) := by decide +kernel
theorem dX9_taken_61 : decode cX9_taken 61 = .ok (.goto (-56), 3) := by decide +kernel
theorem dX9_taken_64 : decode cX9_taken 64 = .ok (.iload_n 2, 1) := by decide +kernel
theorem dX9_taken_65 : decode cX9_taken 65 = .ok (.ireturn, 1) := by decide +kernel
theorem dX9_use_0 : decode cX9_use 0 = .ok (.aload_n 0, 1) := by decide +kernel
theorem dX9_use_1 : decode cX9_use 1 = .ok (.getfield 22, 3) := by decide +kernel
theorem dX9_use_4 : decode cX9_use 4 = .ok (.iload_n 1, 1) := by decide +kernel
theorem dX9_use_5 : decode cX9_use 5 = .ok (.iaload, 1) := by decide +kernel
theorem dX9_use_6 : decode cX9_use 6 = .ok (.aload_n 0, 1) := by decide +kernel
theorem dX9_use_7 : decode cX9_use 7 = .ok (.getfield 7, 3) := by decide +kernel
theorem dX9_use_10 : decode cX9_use 10 = .ok (.iconst 3, 1) := by decide +kernel
theorem dX9_use_11 : decode cX9_use 11 = .ok (.iload_n 2, 1) := by decide +kernel
theorem dX9_use_12 : decode cX9_use 12 = .ok (.invokestatic 88, 3) := by decide +kernel
theorem dX9_use_15 : decode cX9_use 15 = .ok (.iaload, 1) := by decide +kernel
theorem dX9_use_16 : decode cX9_use 16 = .ok (.if_icmp .ge 12, 3) := by decide +kernel
theorem dX9_use_19 : decode cX9_use 19 = .ok (.aload_n 0, 1) := by decide +kernel
theorem dX9_use_20 : decode cX9_use 20 = .ok (.getfield 22, 3) := by decide +kernel
theorem dX9_use_23 : decode cX9_use 23 = .ok (.iload_n 1, 1) := by decide +kernel
theorem dX9_use_24 : decode cX9_use 24 = .ok (.iaload, 1) := by decide +kernel
theorem dX9_use_25 : decode cX9_use 25 = .ok (.goto 13, 3) := by decide +kernel
theorem dX9_use_28 : decode cX9_use 28 = .ok (.aload_n 0, 1) := by decide +kernel
theorem dX9_use_29 : decode cX9_use 29 = .ok (.getfield 7, 3) := by decide +kernel
theorem dX9_use_32 : decode cX9_use 32 = .ok (.iconst 3, 1) := by decide +kernel
theorem dX9_use_33 : decode cX9_use 33 = .ok (.iload_n 2, 1) := by decide +kernel
theorem dX9_use_34 : decode cX9_use 34 = .ok (.invokestatic 88, 3) := by decide +kernel
theorem dX9_use_37 : decode cX9_use 37 = .ok (.iaload, 1) := by decide +kernel
theorem dX9_use_38 : decode cX9_use 38 = .ok (.istore_n 3, 1) := by decide +kernel
theorem dX9_use_39 : decode cX9_use 39 = .ok (.aload_n 0, 1) := by decide +kernel
theorem dX9_use_40 : decode cX9_use 40 = .ok (.getfield 7, 3) := by decide +kernel
theorem dX9_use_43 : decode cX9_use 43 = .ok (.iconst 3, 1) := by decide +kernel
theorem dX9_use_44 : decode cX9_use 44 = .ok (.iload_n 2, 1) := by decide +kernel
theorem dX9_use_45 : decode cX9_use 45 = .ok (.invokestatic 88, 3) := by decide +kernel
theorem dX9_use_48 : decode cX9_use 48 = .ok (.dup2, 1) := by decide +kernel
theorem dX9_use_49 : decode cX9_use 49 = .ok (.iaload, 1) := by decide +kernel
theorem dX9_use_50 : decode cX9_use 50 = .ok (.iload_n 3, 1) := by decide +kernel
theorem dX9_use_51 : decode cX9_use 51 = .ok (.isub, 1) := by decide +kernel
theorem dX9_use_52 : decode cX9_use 52 = .ok (.iastore, 1) := by decide +kernel
theorem dX9_use_53 : decode cX9_use 53 = .ok (.aload_n 0, 1) := by decide +kernel
theorem dX9_use_54 : decode cX9_use 54 = .ok (.dup, 1) := by decide +kernel
theorem dX9_use_55 : decode cX9_use 55 = .ok (.getfield 136, 3) := by decide +kernel
theorem dX9_use_58 : decode cX9_use 58 = .ok (.iload_n 3, 1) := by decide +kernel
theorem dX9_use_59 : decode cX9_use 59 = .ok (.iadd, 1) := by decide +kernel
theorem dX9_use_60 : decode cX9_use 60 = .ok (.putfield 136, 3) := by decide +kernel
theorem dX9_use_63 : decode cX9_use 63 = .ok (.aload_n 0, 1) := by decide +kernel
theorem dX9_use_64 : decode cX9_use 64 = .ok (.getfield 13, 3) := by decide +kernel
theorem dX9_use_67 : decode cX9_use 67 = .ok (.iload_n 2, 1) := by decide +kernel
theorem dX9_use_68 : decode cX9_use 68 = .ok (.bipush 9, 2) := by decide +kernel
theorem dX9_use_70 : decode cX9_use 70 = .ok (.iastore, 1) := by decide +kernel
theorem dX9_use_71 : decode cX9_use 71 = .ok (.aload_n 0, 1) := by decide +kernel
theorem dX9_use_72 : decode cX9_use 72 = .ok (.iload_n 2, 1) := by decide +kernel
theorem dX9_use_73 : decode cX9_use 73 = .ok (.putfield 127, 3) := by decide +kernel
theorem dX9_use_76 : decode cX9_use 76 = .ok (.return_, 1) := by decide +kernel
theorem dX9_keepNow_0 : decode cX9_keepNow 0 = .ok (.iconst 0, 1) := by decide +kernel
theorem dX9_keepNow_1 : decode cX9_keepNow 1 = .ok (.istore_n 1, 1) := by decide +kernel
theorem dX9_keepNow_2 : decode cX9_keepNow 2 = .ok (.iload_n 1, 1) := by decide +kernel
theorem dX9_keepNow_3 : decode cX9_keepNow 3 = .ok (.bipush 7, 2) := by decide +kernel
theorem dX9_keepNow_5 : decode cX9_keepNow 5 = .ok (.if_icmp .ge 37, 3) := by decide +kernel
theorem dX9_keepNow_8 : decode cX9_keepNow 8 = .ok (.aload_n 0, 1) := by decide +kernel
theorem dX9_keepNow_9 : decode cX9_keepNow 9 = .ok (.getfield 34, 3) := by decide +kernel
theorem dX9_keepNow_12 : decode cX9_keepNow 12 = .ok (.iload_n 1, 1) := by decide +kernel
theorem dX9_keepNow_13 : decode cX9_keepNow 13 = .ok (.aload_n 0, 1) := by decide +kernel
theorem dX9_keepNow_14 : decode cX9_keepNow 14 = .ok (.getfield 7, 3) := by decide +kernel
theorem dX9_keepNow_17 : decode cX9_keepNow 17 = .ok (.iconst 3, 1) := by decide +kernel
theorem dX9_keepNow_18 : decode cX9_keepNow 18 = .ok (.iload_n 1, 1) := by decide +kernel
theorem dX9_keepNow_19 : decode cX9_keepNow 19 = .ok (.invokestatic 88, 3) := by decide +kernel
theorem dX9_keepNow_22 : decode cX9_keepNow 22 = .ok (.iaload, 1) := by decide +kernel
theorem dX9_keepNow_23 : decode cX9_keepNow 23 = .ok (.iastore, 1) := by decide +kernel
theorem dX9_keepNow_24 : decode cX9_keepNow 24 = .ok (.aload_n 0, 1) := by decide +kernel
theorem dX9_keepNow_25 : decode cX9_keepNow 25 = .ok (.getfield 37, 3) := by decide +kernel
theorem dX9_keepNow_28 : decode cX9_keepNow 28 = .ok (.iload_n 1, 1) := by decide +kernel
theorem dX9_keepNow_29 : decode cX9_keepNow 29 = .ok (.aload_n 0, 1) := by decide +kernel
theorem dX9_keepNow_30 : decode cX9_keepNow 30 = .ok (.getfield 13, 3) := by decide +kernel
theorem dX9_keepNow_33 : decode cX9_keepNow 33 = .ok (.iload_n 1, 1) := by decide +kernel
theorem dX9_keepNow_34 : decode cX9_keepNow 34 = .ok (.iaload, 1) := by decide +kernel
theorem dX9_keepNow_35 : decode cX9_keepNow 35 = .ok (.iastore, 1) := by decide +kernel
theorem dX9_keepNow_36 : decode cX9_keepNow 36 = .ok (.iinc 1 1, 3) := by decide +kernel
theorem dX9_keepNow_39 : decode cX9_keepNow 39 = .ok (.goto (-37), 3) := by decide +kernel
theorem dX9_keepNow_42 : decode cX9_keepNow 42 = .ok (.return_, 1) := by decide +kernel
theorem dX9_putBack_0 : decode cX9_putBack 0 = .ok (.iconst 0, 1) := by decide +kernel
theorem dX9_putBack_1 : decode cX9_putBack 1 = .ok (.istore_n 1, 1) := by decide +kernel
theorem dX9_putBack_2 : decode cX9_putBack 2 = .ok (.iload_n 1, 1) := by decide +kernel
theorem dX9_putBack_3 : decode cX9_putBack 3 = .ok (.bipush 7, 2) := by decide +kernel
theorem dX9_putBack_5 : decode cX9_putBack 5 = .ok (.if_icmp .ge 37, 3) := by decide +kernel
theorem dX9_putBack_8 : decode cX9_putBack 8 = .ok (.aload_n 0, 1) := by decide +kernel
theorem dX9_putBack_9 : decode cX9_putBack 9 = .ok (.getfield 7, 3) := by decide +kernel
theorem dX9_putBack_12 : decode cX9_putBack 12 = .ok (.iconst 3, 1) := by decide +kernel
theorem dX9_putBack_13 : decode cX9_putBack 13 = .ok (.iload_n 1, 1) := by decide +kernel
theorem dX9_putBack_14 : decode cX9_putBack 14 = .ok (.invokestatic 88, 3) := by decide +kernel
theorem dX9_putBack_17 : decode cX9_putBack 17 = .ok (.aload_n 0, 1) := by decide +kernel
theorem dX9_putBack_18 : decode cX9_putBack 18 = .ok (.getfield 34, 3) := by decide +kernel
theorem dX9_putBack_21 : decode cX9_putBack 21 = .ok (.iload_n 1, 1) := by decide +kernel
theorem dX9_putBack_22 : decode cX9_putBack 22 = .ok (.iaload, 1) := by decide +kernel
theorem dX9_putBack_23 : decode cX9_putBack 23 = .ok (.iastore, 1) := by decide +kernel
theorem dX9_putBack_24 : decode cX9_putBack 24 = .ok (.aload_n 0, 1) := by decide +kernel
theorem dX9_putBack_25 : decode cX9_putBack 25 = .ok (.getfield 13, 3) := by decide +kernel
theorem dX9_putBack_28 : decode cX9_putBack 28 = .ok (.iload_n 1, 1) := by decide +kernel
theorem dX9_putBack_29 : decode cX9_putBack 29 = .ok (.aload_n 0, 1) := by decide +kernel
theorem dX9_putBack_30 : decode cX9_putBack 30 = .ok (.getfield 37, 3) := by decide +kernel
theorem dX9_putBack_33 : decode cX9_putBack 33 = .ok (.iload_n 1, 1) := by decide +kernel
theorem dX9_putBack_34 : decode cX9_putBack 34 = .ok (.iaload, 1) := by decide +kernel
theorem dX9_putBack_35 : decode cX9_putBack 35 = .ok (.iastore, 1) := by decide +kernel
theorem dX9_putBack_36 : decode cX9_putBack 36 = .ok (.iinc 1 1, 3) := by decide +kernel
theorem dX9_putBack_39 : decode cX9_putBack 39 = .ok (.goto (-37), 3) := by decide +kernel
theorem dX9_putBack_42 : decode cX9_putBack 42 = .ok (.return_, 1) := by decide +kernel
theorem dX9_comeIn_0 : decode cX9_comeIn 0 = .ok (.aload_n 0, 1) := by decide +kernel
theorem dX9_comeIn_1 : decode cX9_comeIn 1 = .ok (.iload_n 2, 1) := by decide +kernel
theorem dX9_comeIn_2 : decode cX9_comeIn 2 = .ok (.invokevirtual 113, 3) := by decide +kernel
theorem dX9_comeIn_5 : decode cX9_comeIn 5 = .ok (.ifCond .eq 11, 3) := by decide +kernel
theorem dX9_comeIn_8 : decode cX9_comeIn 8 = .ok (.aload_n 0, 1) := by decide +kernel
theorem dX9_comeIn_9 : decode cX9_comeIn 9 = .ok (.iload_n 2, 1) := by decide +kernel
theorem dX9_comeIn_10 : decode cX9_comeIn 10 = .ok (.invokevirtual 139, 3) := by decide +kernel
theorem dX9_comeIn_13 : decode cX9_comeIn 13 = .ok (.goto 5, 3) := by decide +kernel
theorem dX9_comeIn_16 : decode cX9_comeIn 16 = .ok (.bipush (-6), 2) := by decide +kernel
theorem dX9_comeIn_18 : decode cX9_comeIn 18 = .ok (.istore_n 3, 1) := by decide +kernel
theorem dX9_comeIn_19 : decode cX9_comeIn 19 = .ok (.iload_n 3, 1) := by decide +kernel
theorem dX9_comeIn_20 : decode cX9_comeIn 20 = .ok (.ifCond .ge 26, 3) := by decide +kernel
theorem dX9_comeIn_23 : decode cX9_comeIn 23 = .ok (.aload_n 0, 1) := by decide +kernel
theorem dX9_comeIn_24 : decode cX9_comeIn 24 = .ok (.iload_n 1, 1) := by decide +kernel
theorem dX9_comeIn_25 : decode cX9_comeIn 25 = .ok (.putfield 142, 3) := by decide +kernel
theorem dX9_comeIn_28 : decode cX9_comeIn 28 = .ok (.aload_n 0, 1) := by decide +kernel
theorem dX9_comeIn_29 : decode cX9_comeIn 29 = .ok (.aload_n 0, 1) := by decide +kernel
theorem dX9_comeIn_30 : decode cX9_comeIn 30 = .ok (.iload_n 2, 1) := by decide +kernel
theorem dX9_comeIn_31 : decode cX9_comeIn 31 = .ok (.invokevirtual 113, 3) := by decide +kernel
theorem dX9_comeIn_34 : decode cX9_comeIn 34 = .ok (.ifCond .eq 7, 3) := by decide +kernel
theorem dX9_comeIn_37 : decode cX9_comeIn 37 = .ok (.iconst 2, 1) := by decide +kernel
theorem dX9_comeIn_38 : decode cX9_comeIn 38 = .ok (.goto 4, 3) := by decide +kernel
theorem dX9_comeIn_41 : decode cX9_comeIn 41 = .ok (.iconst 1, 1) := by decide +kernel
theorem dX9_comeIn_42 : decode cX9_comeIn 42 = .ok (.putfield 145, 3) := by decide +kernel
theorem dX9_comeIn_45 : decode cX9_comeIn 45 = .ok (.return_, 1) := by decide +kernel
theorem dX9_comeIn_46 : decode cX9_comeIn 46 = .ok (.aload_n 0, 1) := by decide +kernel
theorem dX9_comeIn_47 : decode cX9_comeIn 47 = .ok (.getfield 40, 3) := by decide +kernel
theorem dX9_comeIn_50 : decode cX9_comeIn 50 = .ok (.iload_n 1, 1) := by decide +kernel
theorem dX9_comeIn_51 : decode cX9_comeIn 51 = .ok (.iload_n 3, 1) := by decide +kernel
theorem dX9_comeIn_52 : decode cX9_comeIn 52 = .ok (.iastore, 1) := by decide +kernel
theorem dX9_comeIn_53 : decode cX9_comeIn 53 = .ok (.aload_n 0, 1) := by decide +kernel
theorem dX9_comeIn_54 : decode cX9_comeIn 54 = .ok (.getfield 43, 3) := by decide +kernel
theorem dX9_comeIn_57 : decode cX9_comeIn 57 = .ok (.iload_n 3, 1) := by decide +kernel
theorem dX9_comeIn_58 : decode cX9_comeIn 58 = .ok (.aload_n 0, 1) := by decide +kernel
theorem dX9_comeIn_59 : decode cX9_comeIn 59 = .ok (.getfield 43, 3) := by decide +kernel
theorem dX9_comeIn_62 : decode cX9_comeIn 62 = .ok (.iload_n 3, 1) := by decide +kernel
theorem dX9_comeIn_63 : decode cX9_comeIn 63 = .ok (.iaload, 1) := by decide +kernel
theorem dX9_comeIn_64 : decode cX9_comeIn 64 = .ok (.ifCond .ge 7, 3) := by decide +kernel
theorem dX9_comeIn_67 : decode cX9_comeIn 67 = .ok (.iload_n 2, 1) := by decide +kernel
theorem dX9_comeIn_68 : decode cX9_comeIn 68 = .ok (.goto 9, 3) := by decide +kernel
theorem dX9_comeIn_71 : decode cX9_comeIn 71 = .ok (.aload_n 0, 1) := by decide +kernel
theorem dX9_comeIn_72 : decode cX9_comeIn 72 = .ok (.getfield 43, 3) := by decide +kernel
theorem dX9_comeIn_75 : decode cX9_comeIn 75 = .ok (.iload_n 3, 1) := by decide +kernel
theorem dX9_comeIn_76 : decode cX9_comeIn 76 = .ok (.iaload, 1) := by decide +kernel
theorem dX9_comeIn_77 : decode cX9_comeIn 77 = .ok (.iastore, 1) := by decide +kernel
theorem dX9_comeIn_78 : decode cX9_comeIn 78 = .ok (.aload_n 0, 1) := by decide +kernel
theorem dX9_comeIn_79 : decode cX9_comeIn 79 = .ok (.getfield 46, 3) := by decide +kernel
theorem dX9_comeIn_82 : decode cX9_comeIn 82 = .ok (.iload_n 3, 1) := by decide +kernel
theorem dX9_comeIn_83 : decode cX9_comeIn 83 = .ok (.iload_n 2, 1) := by decide +kernel
theorem dX9_comeIn_84 : decode cX9_comeIn 84 = .ok (.iastore, 1) := by decide +kernel
theorem dX9_comeIn_85 : decode cX9_comeIn 85 = .ok (.aload_n 0, 1) := by decide +kernel
theorem dX9_comeIn_86 : decode cX9_comeIn 86 = .ok (.dup, 1) := by decide +kernel
theorem dX9_comeIn_87 : decode cX9_comeIn 87 = .ok (.getfield 148, 3) := by decide +kernel
theorem dX9_comeIn_90 : decode cX9_comeIn 90 = .ok (.iconst 1, 1) := by decide +kernel
theorem dX9_comeIn_91 : decode cX9_comeIn 91 = .ok (.iadd, 1) := by decide +kernel
theorem dX9_comeIn_92 : decode cX9_comeIn 92 = .ok (.putfield 148, 3) := by decide +kernel
theorem dX9_comeIn_95 : decode cX9_comeIn 95 = .ok (.aload_n 0, 1) := by decide +kernel
theorem dX9_comeIn_96 : decode cX9_comeIn 96 = .ok (.iload_n 2, 1) := by decide +kernel
theorem dX9_comeIn_97 : decode cX9_comeIn 97 = .ok (.iload_n 3, 1) := by decide +kernel
theorem dX9_comeIn_98 : decode cX9_comeIn 98 = .ok (.invokevirtual 151, 3) := by decide +kernel
theorem dX9_comeIn_101 : decode cX9_comeIn 101 = .ok (.return_, 1) := by decide +kernel
theorem dX9_passHour_0 : decode cX9_passHour 0 = .ok (.iconst 0, 1) := by decide +kernel
theorem dX9_passHour_1 : decode cX9_passHour 1 = .ok (.istore_n 1, 1) := by decide +kernel
theorem dX9_passHour_2 : decode cX9_passHour 2 = .ok (.iload_n 1, 1) := by decide +kernel
theorem dX9_passHour_3 : decode cX9_passHour 3 = .ok (.aload_n 0, 1) := by decide +kernel
theorem dX9_passHour_4 : decode cX9_passHour 4 = .ok (.getfield 84, 3) := by decide +kernel
theorem dX9_passHour_7 : decode cX9_passHour 7 = .ok (.if_icmp .ge 32, 3) := by decide +kernel
theorem dX9_passHour_10 : decode cX9_passHour 10 = .ok (.aload_n 0, 1) := by decide +kernel
theorem dX9_passHour_11 : decode cX9_passHour 11 = .ok (.getfield 13, 3) := by decide +kernel
theorem dX9_passHour_14 : decode cX9_passHour 14 = .ok (.iload_n 1, 1) := by decide +kernel
theorem dX9_passHour_15 : decode cX9_passHour 15 = .ok (.dup2, 1) := by decide +kernel
theorem dX9_passHour_16 : decode cX9_passHour 16 = .ok (.iaload, 1) := by decide +kernel
theorem dX9_passHour_17 : decode cX9_passHour 17 = .ok (.aload_n 0, 1) := by decide +kernel
theorem dX9_passHour_18 : decode cX9_passHour 18 = .ok (.getfield 13, 3) := by decide +kernel
theorem dX9_passHour_21 : decode cX9_passHour 21 = .ok (.iload_n 1, 1) := by decide +kernel
theorem dX9_passHour_22 : decode cX9_passHour 22 = .ok (.iaload, 1) := by decide +kernel
theorem dX9_passHour_23 : decode cX9_passHour 23 = .ok (.ifCond .le 7, 3) := by decide +kernel
theorem dX9_passHour_26 : decode cX9_passHour 26 = .ok (.iconst 1, 1) := by decide +kernel
theorem dX9_passHour_27 : decode cX9_passHour 27 = .ok (.goto 4, 3) := by decide +kernel
theorem dX9_passHour_30 : decode cX9_passHour 30 = .ok (.iconst 0, 1) := by decide +kernel
theorem dX9_passHour_31 : decode cX9_passHour 31 = .ok (.isub, 1) := by decide +kernel
theorem dX9_passHour_32 : decode cX9_passHour 32 = .ok (.iastore, 1) := by decide +kernel
theorem dX9_passHour_33 : decode cX9_passHour 33 = .ok (.iinc 1 1, 3) := by decide +kernel
theorem dX9_passHour_36 : decode cX9_passHour 36 = .ok (.goto (-34), 3) := by decide +kernel
theorem dX9_passHour_39 : decode cX9_passHour 39 = .ok (.return_, 1) := by decide +kernel
theorem dX9_goEvening_0 : decode cX9_goEvening 0 = .ok (.aload_n 0, 1) := by decide +kernel
theorem dX9_goEvening_1 : decode cX9_goEvening 1 = .ok (.bipush (-6), 2) := by decide +kernel
theorem dX9_goEvening_3 : decode cX9_goEvening 3 = .ok (.putfield 142, 3) := by decide +kernel
theorem dX9_goEvening_6 : decode cX9_goEvening 6 = .ok (.aload_n 0, 1) := by decide +kernel
theorem dX9_goEvening_7 : decode cX9_goEvening 7 = .ok (.bipush (-6), 2) := by decide +kernel
theorem dX9_goEvening_9 : decode cX9_goEvening 9 = .ok (.putfield 145, 3) := by decide +kernel
theorem dX9_goEvening_12 : decode cX9_goEvening 12 = .ok (.aload_n 0, 1) := by decide +kernel
theorem dX9_goEvening_13 : decode cX9_goEvening 13 = .ok (.iconst 0, 1) := by decide +kernel
theorem dX9_goEvening_14 : decode cX9_goEvening 14 = .ok (.putfield 148, 3) := by decide +kernel
theorem dX9_goEvening_17 : decode cX9_goEvening 17 = .ok (.aload_n 0, 1) := by decide +kernel
theorem dX9_goEvening_18 : decode cX9_goEvening 18 = .ok (.iconst 0, 1) := by decide +kernel
theorem dX9_goEvening_19 : decode cX9_goEvening 19 = .ok (.putfield 136, 3) := by decide +kernel
theorem dX9_goEvening_22 : decode cX9_goEvening 22 = .ok (.aload_n 0, 1) := by decide +kernel
theorem dX9_goEvening_23 : decode cX9_goEvening 23 = .ok (.bipush (-6), 2) := by decide +kernel
theorem dX9_goEvening_25 : decode cX9_goEvening 25 = .ok (.putfield 127, 3) := by decide +kernel
theorem dX9_goEvening_28 : decode cX9_goEvening 28 = .ok (.iconst 0, 1) := by decide +kernel
theorem dX9_goEvening_29 : decode cX9_goEvening 29 = .ok (.istore_n 1, 1) := by decide +kernel
theorem dX9_goEvening_30 : decode cX9_goEvening 30 = .ok (.iload_n 1, 1) := by decide +kernel
theorem dX9_goEvening_31 : decode cX9_goEvening 31 = .ok (.bipush 7, 2) := by decide +kernel
theorem dX9_goEvening_33 : decode cX9_goEvening 33 = .ok (.if_icmp .ge 25, 3) := by decide +kernel
theorem dX9_goEvening_36 : decode cX9_goEvening 36 = .ok (.aload_n 0, 1) := by decide +kernel
theorem dX9_goEvening_37 : decode cX9_goEvening 37 = .ok (.getfield 43, 3) := by decide +kernel
theorem dX9_goEvening_40 : decode cX9_goEvening 40 = .ok (.iload_n 1, 1) := by decide +kernel
theorem dX9_goEvening_41 : decode cX9_goEvening 41 = .ok (.bipush (-6), 2) := by decide +kernel
theorem dX9_goEvening_43 : decode cX9_goEvening 43 = .ok (.iastore, 1) := by decide +kernel
theorem dX9_goEvening_44 : decode cX9_goEvening 44 = .ok (.aload_n 0, 1) := by decide +kernel
theorem dX9_goEvening_45 : decode cX9_goEvening 45 = .ok (.getfield 46, 3) := by decide +kernel
theorem dX9_goEvening_48 : decode cX9_goEvening 48 = .ok (.iload_n 1, 1) := by decide +kernel
theorem dX9_goEvening_49 : decode cX9_goEvening 49 = .ok (.bipush (-6), 2) := by decide +kernel
theorem dX9_goEvening_51 : decode cX9_goEvening 51 = .ok (.iastore, 1) := by decide +kernel
theorem dX9_goEvening_52 : decode cX9_goEvening 52 = .ok (.iinc 1 1, 3) := by decide +kernel
theorem dX9_goEvening_55 : decode cX9_goEvening 55 = .ok (.goto (-25), 3) := by decide +kernel
theorem dX9_goEvening_58 : decode cX9_goEvening 58 = .ok (.iconst 0, 1) := by decide +kernel
theorem dX9_goEvening_59 : decode cX9_goEvening 59 = .ok (.istore_n 1, 1) := by decide +kernel
theorem dX9_goEvening_60 : decode cX9_goEvening 60 = .ok (.iload_n 1, 1) := by decide +kernel
theorem dX9_goEvening_61 : decode cX9_goEvening 61 = .ok (.aload_n 0, 1) := by decide +kernel
theorem dX9_goEvening_62 : decode cX9_goEvening 62 = .ok (.getfield 120, 3) := by decide +kernel
theorem dX9_goEvening_65 : decode cX9_goEvening 65 = .ok (.if_icmp .ge 108, 3) := by decide +kernel
theorem dX9_goEvening_68 : decode cX9_goEvening 68 = .ok (.aload_n 0, 1) := by decide +kernel
theorem dX9_goEvening_69 : decode cX9_goEvening 69 = .ok (.getfield 142, 3) := by decide +kernel
theorem dX9_goEvening_72 : decode cX9_goEvening 72 = .ok (.ifCond .ge 101, 3) := by decide +kernel
theorem dX9_goEvening_75 : decode cX9_goEvening 75 = .ok (.aload_n 0, 1) := by decide +kernel
theorem dX9_goEvening_76 : decode cX9_goEvening 76 = .ok (.getfield 40, 3) := by decide +kernel
theorem dX9_goEvening_79 : decode cX9_goEvening 79 = .ok (.iload_n 1, 1) := by decide +kernel
theorem dX9_goEvening_80 : decode cX9_goEvening 80 = .ok (.bipush (-6), 2) := by decide +kernel
theorem dX9_goEvening_82 : decode cX9_goEvening 82 = .ok (.iastore, 1) := by decide +kernel
theorem dX9_goEvening_83 : decode cX9_goEvening 83 = .ok (.aload_n 0, 1) := by decide +kernel
theorem dX9_goEvening_84 : decode cX9_goEvening 84 = .ok (.getfield 31, 3) := by decide +kernel
theorem dX9_goEvening_87 : decode cX9_goEvening 87 = .ok (.iload_n 1, 1) := by decide +kernel
theorem dX9_goEvening_88 : decode cX9_goEvening 88 = .ok (.iaload, 1) := by decide +kernel
theorem dX9_goEvening_89 : decode cX9_goEvening 89 = .ok (.bipush 46, 2) := by decide +kernel
theorem dX9_goEvening_91 : decode cX9_goEvening 91 = .ok (.if_icmp .ne 10, 3) := by decide +kernel
theorem dX9_goEvening_94 : decode cX9_goEvening 94 = .ok (.aload_n 0, 1) := by decide +kernel
theorem dX9_goEvening_95 : decode cX9_goEvening 95 = .ok (.invokevirtual 155, 3) := by decide +kernel
theorem dX9_goEvening_98 : decode cX9_goEvening 98 = .ok (.goto 69, 3) := by decide +kernel
theorem dX9_goEvening_101 : decode cX9_goEvening 101 = .ok (.aload_n 0, 1) := by decide +kernel
theorem dX9_goEvening_102 : decode cX9_goEvening 102 = .ok (.getfield 31, 3) := by decide +kernel
theorem dX9_goEvening_105 : decode cX9_goEvening 105 = .ok (.iload_n 1, 1) := by decide +kernel
theorem dX9_goEvening_106 : decode cX9_goEvening 106 = .ok (.iaload, 1) := by decide +kernel
theorem dX9_goEvening_107 : decode cX9_goEvening 107 = .ok (.i2l, 1) := by decide +kernel
theorem dX9_goEvening_108 : decode cX9_goEvening 108 = .ok (.ldc2_w 158, 3) := by decide +kernel
theorem dX9_goEvening_111 : decode cX9_goEvening 111 = .ok (.ldc2_w 160, 3) := by decide +kernel
theorem dX9_goEvening_114 : decode cX9_goEvening 114 = .ok (.invokestatic 92, 3) := by decide +kernel
theorem dX9_goEvening_117 : decode cX9_goEvening 117 = .ok (.ifCond .eq 36, 3) := by decide +kernel
theorem dX9_goEvening_120 : decode cX9_goEvening 120 = .ok (.aload_n 0, 1) := by decide +kernel
theorem dX9_goEvening_121 : decode cX9_goEvening 121 = .ok (.getfield 31, 3) := by decide +kernel
theorem dX9_goEvening_124 : decode cX9_goEvening 124 = .ok (.iload_n 1, 1) := by decide +kernel
theorem dX9_goEvening_125 : decode cX9_goEvening 125 = .ok (.iaload, 1) := by decide +kernel
theorem dX9_goEvening_126 : decode cX9_goEvening 126 = .ok (.bipush 48, 2) := by decide +kernel
theorem dX9_goEvening_128 : decode cX9_goEvening 128 = .ok (.isub, 1) := by decide +kernel
theorem dX9_goEvening_129 : decode cX9_goEvening 129 = .ok (.istore_n 2, 1) := by decide +kernel
theorem dX9_goEvening_130 : decode cX9_goEvening 130 = .ok (.aload_n 0, 1) := by decide +kernel
theorem dX9_goEvening_131 : decode cX9_goEvening 131 = .ok (.getfield 7, 3) := by decide +kernel
theorem dX9_goEvening_134 : decode cX9_goEvening 134 = .ok (.iconst 3, 1) := by decide +kernel
theorem dX9_goEvening_135 : decode cX9_goEvening 135 = .ok (.iload_n 2, 1) := by decide +kernel
theorem dX9_goEvening_136 : decode cX9_goEvening 136 = .ok (.invokestatic 88, 3) := by decide +kernel
theorem dX9_goEvening_139 : decode cX9_goEvening 139 = .ok (.aload_n 0, 1) := by decide +kernel
theorem dX9_goEvening_140 : decode cX9_goEvening 140 = .ok (.getfield 7, 3) := by decide +kernel
theorem dX9_goEvening_143 : decode cX9_goEvening 143 = .ok (.iconst 1, 1) := by decide +kernel
theorem dX9_goEvening_144 : decode cX9_goEvening 144 = .ok (.iload_n 2, 1) := by decide +kernel
theorem dX9_goEvening_145 : decode cX9_goEvening 145 = .ok (.invokestatic 88, 3) := by decide +kernel
theorem dX9_goEvening_148 : decode cX9_goEvening 148 = .ok (.iaload, 1) := by decide +kernel
theorem dX9_goEvening_149 : decode cX9_goEvening 149 = .ok (.iastore, 1) := by decide +kernel
theorem dX9_goEvening_150 : decode cX9_goEvening 150 = .ok (.goto 17, 3) := by decide +kernel
theorem dX9_goEvening_153 : decode cX9_goEvening 153 = .ok (.aload_n 0, 1) := by decide +kernel
theorem dX9_goEvening_154 : decode cX9_goEvening 154 = .ok (.iload_n 1, 1) := by decide +kernel
theorem dX9_goEvening_155 : decode cX9_goEvening 155 = .ok (.aload_n 0, 1) := by decide +kernel
theorem dX9_goEvening_156 : decode cX9_goEvening 156 = .ok (.getfield 31, 3) := by decide +kernel
theorem dX9_goEvening_159 : decode cX9_goEvening 159 = .ok (.iload_n 1, 1) := by decide +kernel
theorem dX9_goEvening_160 : decode cX9_goEvening 160 = .ok (.iaload, 1) := by decide +kernel
theorem dX9_goEvening_161 : decode cX9_goEvening 161 = .ok (.bipush 65, 2) := by decide +kernel
theorem dX9_goEvening_163 : decode cX9_goEvening 163 = .ok (.isub, 1) := by decide +kernel
theorem dX9_goEvening_164 : decode cX9_goEvening 164 = .ok (.invokevirtual 162, 3) := by decide +kernel
theorem dX9_goEvening_167 : decode cX9_goEvening 167 = .ok (.iinc 1 1, 3) := by decide +kernel
theorem dX9_goEvening_170 : decode cX9_goEvening 170 = .ok (.goto (-110), 3) := by decide +kernel
theorem dX9_goEvening_173 : decode cX9_goEvening 173 = .ok (.return_, 1) := by decide +kernel
theorem dX9_refusal_0 : decode cX9_refusal 0 = .ok (.aload_n 0, 1) := by decide +kernel
theorem dX9_refusal_1 : decode cX9_refusal 1 = .ok (.invokevirtual 165, 3) := by decide +kernel
theorem dX9_refusal_4 : decode cX9_refusal 4 = .ok (.ifCond .lt 6, 3) := by decide +kernel
theorem dX9_refusal_7 : decode cX9_refusal 7 = .ok (.bipush (-5), 2) := by decide +kernel
theorem dX9_refusal_9 : decode cX9_refusal 9 = .ok (.ireturn, 1) := by decide +kernel
theorem dX9_refusal_10 : decode cX9_refusal 10 = .ok (.aload_n 0, 1) := by decide +kernel
theorem dX9_refusal_11 : decode cX9_refusal 11 = .ok (.invokevirtual 169, 3) := by decide +kernel
theorem dX9_refusal_14 : decode cX9_refusal 14 = .ok (.aload_n 0, 1) := by decide +kernel
theorem dX9_refusal_15 : decode cX9_refusal 15 = .ok (.invokevirtual 172, 3) := by decide +kernel
theorem dX9_refusal_18 : decode cX9_refusal 18 = .ok (.iconst 0, 1) := by decide +kernel
theorem dX9_refusal_19 : decode cX9_refusal 19 = .ok (.istore_n 1, 1) := by decide +kernel
theorem dX9_refusal_20 : decode cX9_refusal 20 = .ok (.iload_n 1, 1) := by decide +kernel
theorem dX9_refusal_21 : decode cX9_refusal 21 = .ok (.bipush 7, 2) := by decide +kernel
theorem dX9_refusal_23 : decode cX9_refusal 23 = .ok (.if_icmp .ge 37, 3) := by decide +kernel
theorem dX9_refusal_26 : decode cX9_refusal 26 = .ok (.aload_n 0, 1) := by decide +kernel
theorem dX9_refusal_27 : decode cX9_refusal 27 = .ok (.getfield 49, 3) := by decide +kernel
theorem dX9_refusal_30 : decode cX9_refusal 30 = .ok (.iload_n 1, 1) := by decide +kernel
theorem dX9_refusal_31 : decode cX9_refusal 31 = .ok (.aload_n 0, 1) := by decide +kernel
theorem dX9_refusal_32 : decode cX9_refusal 32 = .ok (.getfield 7, 3) := by decide +kernel
theorem dX9_refusal_35 : decode cX9_refusal 35 = .ok (.iconst 3, 1) := by decide +kernel
theorem dX9_refusal_36 : decode cX9_refusal 36 = .ok (.iload_n 1, 1) := by decide +kernel
theorem dX9_refusal_37 : decode cX9_refusal 37 = .ok (.invokestatic 88, 3) := by decide +kernel
theorem dX9_refusal_40 : decode cX9_refusal 40 = .ok (.iaload, 1) := by decide +kernel
theorem dX9_refusal_41 : decode cX9_refusal 41 = .ok (.iastore, 1) := by decide +kernel
theorem dX9_refusal_42 : decode cX9_refusal 42 = .ok (.aload_n 0, 1) := by decide +kernel
theorem dX9_refusal_43 : decode cX9_refusal 43 = .ok (.getfield 52, 3) := by decide +kernel
theorem dX9_refusal_46 : decode cX9_refusal 46 = .ok (.iload_n 1, 1) := by decide +kernel
theorem dX9_refusal_47 : decode cX9_refusal 47 = .ok (.aload_n 0, 1) := by decide +kernel
theorem dX9_refusal_48 : decode cX9_refusal 48 = .ok (.getfield 13, 3) := by decide +kernel
theorem dX9_refusal_51 : decode cX9_refusal 51 = .ok (.iload_n 1, 1) := by decide +kernel
theorem dX9_refusal_52 : decode cX9_refusal 52 = .ok (.iaload, 1) := by decide +kernel
theorem dX9_refusal_53 : decode cX9_refusal 53 = .ok (.iastore, 1) := by decide +kernel
theorem dX9_refusal_54 : decode cX9_refusal 54 = .ok (.iinc 1 1, 3) := by decide +kernel
theorem dX9_refusal_57 : decode cX9_refusal 57 = .ok (.goto (-37), 3) := by decide +kernel
theorem dX9_refusal_60 : decode cX9_refusal 60 = .ok (.aload_n 0, 1) := by decide +kernel
theorem dX9_refusal_61 : decode cX9_refusal 61 = .ok (.invokevirtual 175, 3) := by decide +kernel
theorem dX9_refusal_64 : decode cX9_refusal 64 = .ok (.aload_n 0, 1) := by decide +kernel
theorem dX9_refusal_65 : decode cX9_refusal 65 = .ok (.getfield 142, 3) := by decide +kernel
theorem dX9_refusal_68 : decode cX9_refusal 68 = .ok (.ifCond .lt 8, 3) := by decide +kernel
theorem dX9_refusal_71 : decode cX9_refusal 71 = .ok (.bipush (-3), 2) := by decide +kernel
theorem dX9_refusal_73 : decode cX9_refusal 73 = .ok (.goto 5, 3) := by decide +kernel
theorem dX9_refusal_76 : decode cX9_refusal 76 = .ok (.bipush (-6), 2) := by decide +kernel
theorem dX9_refusal_78 : decode cX9_refusal 78 = .ok (.ireturn, 1) := by decide +kernel
theorem dX9_judge_0 : decode cX9_judge 0 = .ok (.iload_n 1, 1) := by decide +kernel
theorem dX9_judge_1 : decode cX9_judge 1 = .ok (.i2l, 1) := by decide +kernel
theorem dX9_judge_2 : decode cX9_judge 2 = .ok (.lconst 0, 1) := by decide +kernel
theorem dX9_judge_3 : decode cX9_judge 3 = .ok (.ldc2_w 96, 3) := by decide +kernel
theorem dX9_judge_6 : decode cX9_judge 6 = .ok (.invokestatic 92, 3) := by decide +kernel
theorem dX9_judge_9 : decode cX9_judge 9 = .ok (.ifCond .ne 6, 3) := by decide +kernel
theorem dX9_judge_12 : decode cX9_judge 12 = .ok (.bipush (-2), 2) := by decide +kernel
theorem dX9_judge_14 : decode cX9_judge 14 = .ok (.ireturn, 1) := by decide +kernel
theorem dX9_judge_15 : decode cX9_judge 15 = .ok (.aload_n 0, 1) := by decide +kernel
theorem dX9_judge_16 : decode cX9_judge 16 = .ok (.invokevirtual 178, 3) := by decide +kernel
theorem dX9_judge_19 : decode cX9_judge 19 = .ok (.istore_n 2, 1) := by decide +kernel
theorem dX9_judge_20 : decode cX9_judge 20 = .ok (.iload_n 2, 1) := by decide +kernel
theorem dX9_judge_21 : decode cX9_judge 21 = .ok (.bipush (-5), 2) := by decide +kernel
theorem dX9_judge_23 : decode cX9_judge 23 = .ok (.if_icmp .eq 14, 3) := by decide +kernel
theorem dX9_judge_26 : decode cX9_judge 26 = .ok (.iload_n 1, 1) := by decide +kernel
theorem dX9_judge_27 : decode cX9_judge 27 = .ok (.iconst 1, 1) := by decide +kernel
theorem dX9_judge_28 : decode cX9_judge 28 = .ok (.if_icmp .le 11, 3) := by decide +kernel
theorem dX9_judge_31 : decode cX9_judge 31 = .ok (.iload_n 2, 1) := by decide +kernel
theorem dX9_judge_32 : decode cX9_judge 32 = .ok (.bipush (-3), 2) := by decide +kernel
theorem dX9_judge_34 : decode cX9_judge 34 = .ok (.if_icmp .ne 5, 3) := by decide +kernel
theorem dX9_judge_37 : decode cX9_judge 37 = .ok (.iload_n 2, 1) := by decide +kernel
theorem dX9_judge_38 : decode cX9_judge 38 = .ok (.ireturn, 1) := by decide +kernel
theorem dX9_judge_39 : decode cX9_judge 39 = .ok (.iload_n 1, 1) := by decide +kernel
theorem dX9_judge_40 : decode cX9_judge 40 = .ok (.ifCond .ne 10, 3) := by decide +kernel
theorem dX9_judge_43 : decode cX9_judge 43 = .ok (.aload_n 0, 1) := by decide +kernel
theorem dX9_judge_44 : decode cX9_judge 44 = .ok (.getfield 142, 3) := by decide +kernel
theorem dX9_judge_47 : decode cX9_judge 47 = .ok (.goto 31, 3) := by decide +kernel
theorem dX9_judge_50 : decode cX9_judge 50 = .ok (.iload_n 1, 1) := by decide +kernel
theorem dX9_judge_51 : decode cX9_judge 51 = .ok (.iconst 1, 1) := by decide +kernel
theorem dX9_judge_52 : decode cX9_judge 52 = .ok (.if_icmp .ne 10, 3) := by decide +kernel
end
section
theorem dX9_judge_55 : decode cX9_judge 55 = .ok (.aload_n 0, 1) := by decide +kernel
theorem dX9_judge_56 : decode cX9_judge 56 = .ok (.getfield 145, 3) := by decide +kernel
theorem dX9_judge_59 : decode cX9_judge 59 = .ok (.goto 19, 3) := by decide +kernel
theorem dX9_judge_62 : decode cX9_judge 62 = .ok (.iload_n 1, 1) := by decide +kernel
theorem dX9_judge_63 : decode cX9_judge 63 = .ok (.iconst 2, 1) := by decide +kernel
theorem dX9_judge_64 : decode cX9_judge 64 = .ok (.if_icmp .ne 10, 3) := by decide +kernel
theorem dX9_judge_67 : decode cX9_judge 67 = .ok (.aload_n 0, 1) := by decide +kernel
theorem dX9_judge_68 : decode cX9_judge 68 = .ok (.getfield 148, 3) := by decide +kernel
theorem dX9_judge_71 : decode cX9_judge 71 = .ok (.goto 7, 3) := by decide +kernel
theorem dX9_judge_74 : decode cX9_judge 74 = .ok (.aload_n 0, 1) := by decide +kernel
theorem dX9_judge_75 : decode cX9_judge 75 = .ok (.getfield 136, 3) := by decide +kernel
theorem dX9_judge_78 : decode cX9_judge 78 = .ok (.ireturn, 1) := by decide +kernel
theorem dX9_used_0 : decode cX9_used 0 = .ok (.aload_n 0, 1) := by decide +kernel
theorem dX9_used_1 : decode cX9_used 1 = .ok (.invokevirtual 178, 3) := by decide +kernel
theorem dX9_used_4 : decode cX9_used 4 = .ok (.istore_n 2, 1) := by decide +kernel
theorem dX9_used_5 : decode cX9_used 5 = .ok (.iload_n 2, 1) := by decide +kernel
theorem dX9_used_6 : decode cX9_used 6 = .ok (.bipush (-6), 2) := by decide +kernel
theorem dX9_used_8 : decode cX9_used 8 = .ok (.if_icmp .eq 5, 3) := by decide +kernel
theorem dX9_used_11 : decode cX9_used 11 = .ok (.iload_n 2, 1) := by decide +kernel
theorem dX9_used_12 : decode cX9_used 12 = .ok (.ireturn, 1) := by decide +kernel
theorem dX9_used_13 : decode cX9_used 13 = .ok (.iload_n 1, 1) := by decide +kernel
theorem dX9_used_14 : decode cX9_used 14 = .ok (.i2l, 1) := by decide +kernel
theorem dX9_used_15 : decode cX9_used 15 = .ok (.lconst 0, 1) := by decide +kernel
theorem dX9_used_16 : decode cX9_used 16 = .ok (.aload_n 0, 1) := by decide +kernel
theorem dX9_used_17 : decode cX9_used 17 = .ok (.getfield 120, 3) := by decide +kernel
theorem dX9_used_20 : decode cX9_used 20 = .ok (.iconst 1, 1) := by decide +kernel
theorem dX9_used_21 : decode cX9_used 21 = .ok (.isub, 1) := by decide +kernel
theorem dX9_used_22 : decode cX9_used 22 = .ok (.i2l, 1) := by decide +kernel
theorem dX9_used_23 : decode cX9_used 23 = .ok (.invokestatic 92, 3) := by decide +kernel
theorem dX9_used_26 : decode cX9_used 26 = .ok (.ifCond .eq 12, 3) := by decide +kernel
theorem dX9_used_29 : decode cX9_used 29 = .ok (.aload_n 0, 1) := by decide +kernel
theorem dX9_used_30 : decode cX9_used 30 = .ok (.getfield 40, 3) := by decide +kernel
theorem dX9_used_33 : decode cX9_used 33 = .ok (.iload_n 1, 1) := by decide +kernel
theorem dX9_used_34 : decode cX9_used 34 = .ok (.iaload, 1) := by decide +kernel
theorem dX9_used_35 : decode cX9_used 35 = .ok (.goto 5, 3) := by decide +kernel
theorem dX9_used_38 : decode cX9_used 38 = .ok (.bipush (-2), 2) := by decide +kernel
theorem dX9_used_40 : decode cX9_used 40 = .ok (.ireturn, 1) := by decide +kernel
theorem dX9_behind_0 : decode cX9_behind 0 = .ok (.aload_n 0, 1) := by decide +kernel
theorem dX9_behind_1 : decode cX9_behind 1 = .ok (.iload_n 1, 1) := by decide +kernel
theorem dX9_behind_2 : decode cX9_behind 2 = .ok (.invokevirtual 103, 3) := by decide +kernel
theorem dX9_behind_5 : decode cX9_behind 5 = .ok (.ifCond .ne 5, 3) := by decide +kernel
theorem dX9_behind_8 : decode cX9_behind 8 = .ok (.iconst (-1), 1) := by decide +kernel
theorem dX9_behind_9 : decode cX9_behind 9 = .ok (.ireturn, 1) := by decide +kernel
theorem dX9_behind_10 : decode cX9_behind 10 = .ok (.iload_n 2, 1) := by decide +kernel
theorem dX9_behind_11 : decode cX9_behind 11 = .ok (.i2l, 1) := by decide +kernel
theorem dX9_behind_12 : decode cX9_behind 12 = .ok (.lconst 0, 1) := by decide +kernel
theorem dX9_behind_13 : decode cX9_behind 13 = .ok (.ldc2_w 96, 3) := by decide +kernel
theorem dX9_behind_16 : decode cX9_behind 16 = .ok (.invokestatic 92, 3) := by decide +kernel
theorem dX9_behind_19 : decode cX9_behind 19 = .ok (.ifCond .ne 6, 3) := by decide +kernel
theorem dX9_behind_22 : decode cX9_behind 22 = .ok (.bipush (-2), 2) := by decide +kernel
theorem dX9_behind_24 : decode cX9_behind 24 = .ok (.ireturn, 1) := by decide +kernel
theorem dX9_behind_25 : decode cX9_behind 25 = .ok (.aload_n 0, 1) := by decide +kernel
theorem dX9_behind_26 : decode cX9_behind 26 = .ok (.invokevirtual 178, 3) := by decide +kernel
theorem dX9_behind_29 : decode cX9_behind 29 = .ok (.istore_n 3, 1) := by decide +kernel
theorem dX9_behind_30 : decode cX9_behind 30 = .ok (.iload_n 3, 1) := by decide +kernel
theorem dX9_behind_31 : decode cX9_behind 31 = .ok (.bipush (-6), 2) := by decide +kernel
theorem dX9_behind_33 : decode cX9_behind 33 = .ok (.if_icmp .eq 5, 3) := by decide +kernel
theorem dX9_behind_36 : decode cX9_behind 36 = .ok (.iload_n 3, 1) := by decide +kernel
theorem dX9_behind_37 : decode cX9_behind 37 = .ok (.ireturn, 1) := by decide +kernel
theorem dX9_behind_38 : decode cX9_behind 38 = .ok (.iload_n 2, 1) := by decide +kernel
theorem dX9_behind_39 : decode cX9_behind 39 = .ok (.ifCond .ne 12, 3) := by decide +kernel
theorem dX9_behind_42 : decode cX9_behind 42 = .ok (.aload_n 0, 1) := by decide +kernel
theorem dX9_behind_43 : decode cX9_behind 43 = .ok (.getfield 49, 3) := by decide +kernel
theorem dX9_behind_46 : decode cX9_behind 46 = .ok (.iload_n 1, 1) := by decide +kernel
theorem dX9_behind_47 : decode cX9_behind 47 = .ok (.iaload, 1) := by decide +kernel
theorem dX9_behind_48 : decode cX9_behind 48 = .ok (.goto 37, 3) := by decide +kernel
theorem dX9_behind_51 : decode cX9_behind 51 = .ok (.iload_n 2, 1) := by decide +kernel
theorem dX9_behind_52 : decode cX9_behind 52 = .ok (.iconst 1, 1) := by decide +kernel
theorem dX9_behind_53 : decode cX9_behind 53 = .ok (.if_icmp .ne 12, 3) := by decide +kernel
theorem dX9_behind_56 : decode cX9_behind 56 = .ok (.aload_n 0, 1) := by decide +kernel
theorem dX9_behind_57 : decode cX9_behind 57 = .ok (.getfield 52, 3) := by decide +kernel
theorem dX9_behind_60 : decode cX9_behind 60 = .ok (.iload_n 1, 1) := by decide +kernel
theorem dX9_behind_61 : decode cX9_behind 61 = .ok (.iaload, 1) := by decide +kernel
theorem dX9_behind_62 : decode cX9_behind 62 = .ok (.goto 23, 3) := by decide +kernel
theorem dX9_behind_65 : decode cX9_behind 65 = .ok (.iload_n 2, 1) := by decide +kernel
theorem dX9_behind_66 : decode cX9_behind 66 = .ok (.iconst 2, 1) := by decide +kernel
theorem dX9_behind_67 : decode cX9_behind 67 = .ok (.if_icmp .ne 12, 3) := by decide +kernel
theorem dX9_behind_70 : decode cX9_behind 70 = .ok (.aload_n 0, 1) := by decide +kernel
theorem dX9_behind_71 : decode cX9_behind 71 = .ok (.getfield 43, 3) := by decide +kernel
theorem dX9_behind_74 : decode cX9_behind 74 = .ok (.iload_n 1, 1) := by decide +kernel
theorem dX9_behind_75 : decode cX9_behind 75 = .ok (.iaload, 1) := by decide +kernel
theorem dX9_behind_76 : decode cX9_behind 76 = .ok (.goto 9, 3) := by decide +kernel
theorem dX9_behind_79 : decode cX9_behind 79 = .ok (.aload_n 0, 1) := by decide +kernel
theorem dX9_behind_80 : decode cX9_behind 80 = .ok (.getfield 46, 3) := by decide +kernel
theorem dX9_behind_83 : decode cX9_behind 83 = .ok (.iload_n 1, 1) := by decide +kernel
theorem dX9_behind_84 : decode cX9_behind 84 = .ok (.iaload, 1) := by decide +kernel
theorem dX9_behind_85 : decode cX9_behind 85 = .ok (.ireturn, 1) := by decide +kernel
theorem dX9_done_0 : decode cX9_done 0 = .ok (.aload_n 0, 1) := by decide +kernel
theorem dX9_done_1 : decode cX9_done 1 = .ok (.invokevirtual 178, 3) := by decide +kernel
theorem dX9_done_4 : decode cX9_done 4 = .ok (.istore_n 1, 1) := by decide +kernel
theorem dX9_done_5 : decode cX9_done 5 = .ok (.iload_n 1, 1) := by decide +kernel
theorem dX9_done_6 : decode cX9_done 6 = .ok (.bipush (-6), 2) := by decide +kernel
theorem dX9_done_8 : decode cX9_done 8 = .ok (.if_icmp .eq 5, 3) := by decide +kernel
theorem dX9_done_11 : decode cX9_done 11 = .ok (.iload_n 1, 1) := by decide +kernel
theorem dX9_done_12 : decode cX9_done 12 = .ok (.ireturn, 1) := by decide +kernel
theorem dX9_done_13 : decode cX9_done 13 = .ok (.aload_n 0, 1) := by decide +kernel
theorem dX9_done_14 : decode cX9_done 14 = .ok (.invokevirtual 172, 3) := by decide +kernel
theorem dX9_done_17 : decode cX9_done 17 = .ok (.aload_n 0, 1) := by decide +kernel
theorem dX9_done_18 : decode cX9_done 18 = .ok (.getfield 120, 3) := by decide +kernel
theorem dX9_done_21 : decode cX9_done 21 = .ok (.istore_n 2, 1) := by decide +kernel
theorem dX9_done_22 : decode cX9_done 22 = .ok (.aload_n 0, 1) := by decide +kernel
theorem dX9_done_23 : decode cX9_done 23 = .ok (.iconst 0, 1) := by decide +kernel
theorem dX9_done_24 : decode cX9_done 24 = .ok (.putfield 120, 3) := by decide +kernel
theorem dX9_done_27 : decode cX9_done 27 = .ok (.iload_n 2, 1) := by decide +kernel
theorem dX9_done_28 : decode cX9_done 28 = .ok (.ireturn, 1) := by decide +kernel
theorem dX9_state_0 : decode cX9_state 0 = .ok (.aload_n 0, 1) := by decide +kernel
theorem dX9_state_1 : decode cX9_state 1 = .ok (.iload_n 1, 1) := by decide +kernel
theorem dX9_state_2 : decode cX9_state 2 = .ok (.invokevirtual 103, 3) := by decide +kernel
theorem dX9_state_5 : decode cX9_state 5 = .ok (.ifCond .ne 5, 3) := by decide +kernel
theorem dX9_state_8 : decode cX9_state 8 = .ok (.iconst (-1), 1) := by decide +kernel
theorem dX9_state_9 : decode cX9_state 9 = .ok (.ireturn, 1) := by decide +kernel
theorem dX9_state_10 : decode cX9_state 10 = .ok (.iload_n 2, 1) := by decide +kernel
theorem dX9_state_11 : decode cX9_state 11 = .ok (.ifCond .ne 16, 3) := by decide +kernel
theorem dX9_state_14 : decode cX9_state 14 = .ok (.aload_n 0, 1) := by decide +kernel
theorem dX9_state_15 : decode cX9_state 15 = .ok (.getfield 7, 3) := by decide +kernel
theorem dX9_state_18 : decode cX9_state 18 = .ok (.iconst 3, 1) := by decide +kernel
theorem dX9_state_19 : decode cX9_state 19 = .ok (.iload_n 1, 1) := by decide +kernel
theorem dX9_state_20 : decode cX9_state 20 = .ok (.invokestatic 88, 3) := by decide +kernel
theorem dX9_state_23 : decode cX9_state 23 = .ok (.iaload, 1) := by decide +kernel
theorem dX9_state_24 : decode cX9_state 24 = .ok (.goto 19, 3) := by decide +kernel
theorem dX9_state_27 : decode cX9_state 27 = .ok (.iload_n 2, 1) := by decide +kernel
theorem dX9_state_28 : decode cX9_state 28 = .ok (.iconst 1, 1) := by decide +kernel
theorem dX9_state_29 : decode cX9_state 29 = .ok (.if_icmp .ne 12, 3) := by decide +kernel
theorem dX9_state_32 : decode cX9_state 32 = .ok (.aload_n 0, 1) := by decide +kernel
theorem dX9_state_33 : decode cX9_state 33 = .ok (.getfield 13, 3) := by decide +kernel
theorem dX9_state_36 : decode cX9_state 36 = .ok (.iload_n 1, 1) := by decide +kernel
theorem dX9_state_37 : decode cX9_state 37 = .ok (.iaload, 1) := by decide +kernel
theorem dX9_state_38 : decode cX9_state 38 = .ok (.goto 5, 3) := by decide +kernel
theorem dX9_state_41 : decode cX9_state 41 = .ok (.bipush (-2), 2) := by decide +kernel
theorem dX9_state_43 : decode cX9_state 43 = .ok (.ireturn, 1) := by decide +kernel
theorem dX9_eats_0 : decode cX9_eats 0 = .ok (.aload_n 0, 1) := by decide +kernel
theorem dX9_eats_1 : decode cX9_eats 1 = .ok (.iload_n 1, 1) := by decide +kernel
theorem dX9_eats_2 : decode cX9_eats 2 = .ok (.invokevirtual 113, 3) := by decide +kernel
theorem dX9_eats_5 : decode cX9_eats 5 = .ok (.ifCond .ne 5, 3) := by decide +kernel
theorem dX9_eats_8 : decode cX9_eats 8 = .ok (.iconst (-1), 1) := by decide +kernel
theorem dX9_eats_9 : decode cX9_eats 9 = .ok (.ireturn, 1) := by decide +kernel
theorem dX9_eats_10 : decode cX9_eats 10 = .ok (.aload_n 0, 1) := by decide +kernel
theorem dX9_eats_11 : decode cX9_eats 11 = .ok (.bipush (-6), 2) := by decide +kernel
theorem dX9_eats_13 : decode cX9_eats 13 = .ok (.putfield 127, 3) := by decide +kernel
theorem dX9_eats_16 : decode cX9_eats 16 = .ok (.aload_n 0, 1) := by decide +kernel
theorem dX9_eats_17 : decode cX9_eats 17 = .ok (.iload_n 1, 1) := by decide +kernel
theorem dX9_eats_18 : decode cX9_eats 18 = .ok (.invokevirtual 139, 3) := by decide +kernel
theorem dX9_eats_21 : decode cX9_eats 21 = .ok (.ireturn, 1) := by decide +kernel
theorem dX9_sights_0 : decode cX9_sights 0 = .ok (.iconst 0, 1) := by decide +kernel
theorem dX9_sights_1 : decode cX9_sights 1 = .ok (.istore_n 1, 1) := by decide +kernel
theorem dX9_sights_2 : decode cX9_sights 2 = .ok (.iconst 0, 1) := by decide +kernel
theorem dX9_sights_3 : decode cX9_sights 3 = .ok (.istore_n 2, 1) := by decide +kernel
theorem dX9_sights_4 : decode cX9_sights 4 = .ok (.iload_n 2, 1) := by decide +kernel
theorem dX9_sights_5 : decode cX9_sights 5 = .ok (.aload_n 0, 1) := by decide +kernel
theorem dX9_sights_6 : decode cX9_sights 6 = .ok (.getfield 84, 3) := by decide +kernel
theorem dX9_sights_9 : decode cX9_sights 9 = .ok (.if_icmp .ge 28, 3) := by decide +kernel
theorem dX9_sights_12 : decode cX9_sights 12 = .ok (.iload_n 1, 1) := by decide +kernel
theorem dX9_sights_13 : decode cX9_sights 13 = .ok (.aload_n 0, 1) := by decide +kernel
theorem dX9_sights_14 : decode cX9_sights 14 = .ok (.getfield 16, 3) := by decide +kernel
theorem dX9_sights_17 : decode cX9_sights 17 = .ok (.iload_n 2, 1) := by decide +kernel
theorem dX9_sights_18 : decode cX9_sights 18 = .ok (.iaload, 1) := by decide +kernel
theorem dX9_sights_19 : decode cX9_sights 19 = .ok (.ifCond .lt 9, 3) := by decide +kernel
theorem dX9_sights_22 : decode cX9_sights 22 = .ok (.iconst 1, 1) := by decide +kernel
theorem dX9_sights_23 : decode cX9_sights 23 = .ok (.iload_n 2, 1) := by decide +kernel
theorem dX9_sights_24 : decode cX9_sights 24 = .ok (.ishl, 1) := by decide +kernel
theorem dX9_sights_25 : decode cX9_sights 25 = .ok (.goto 4, 3) := by decide +kernel
theorem dX9_sights_28 : decode cX9_sights 28 = .ok (.iconst 0, 1) := by decide +kernel
theorem dX9_sights_29 : decode cX9_sights 29 = .ok (.ior, 1) := by decide +kernel
theorem dX9_sights_30 : decode cX9_sights 30 = .ok (.istore_n 1, 1) := by decide +kernel
theorem dX9_sights_31 : decode cX9_sights 31 = .ok (.iinc 2 1, 3) := by decide +kernel
theorem dX9_sights_34 : decode cX9_sights 34 = .ok (.goto (-30), 3) := by decide +kernel
theorem dX9_sights_37 : decode cX9_sights 37 = .ok (.iload_n 1, 1) := by decide +kernel
theorem dX9_sights_38 : decode cX9_sights 38 = .ok (.ireturn, 1) := by decide +kernel
theorem dX9_seen_0 : decode cX9_seen 0 = .ok (.aload_n 0, 1) := by decide +kernel
theorem dX9_seen_1 : decode cX9_seen 1 = .ok (.iload_n 1, 1) := by decide +kernel
theorem dX9_seen_2 : decode cX9_seen 2 = .ok (.invokevirtual 103, 3) := by decide +kernel
theorem dX9_seen_5 : decode cX9_seen 5 = .ok (.ifCond .ne 5, 3) := by decide +kernel
theorem dX9_seen_8 : decode cX9_seen 8 = .ok (.iconst (-1), 1) := by decide +kernel
theorem dX9_seen_9 : decode cX9_seen 9 = .ok (.ireturn, 1) := by decide +kernel
theorem dX9_seen_10 : decode cX9_seen 10 = .ok (.iload_n 2, 1) := by decide +kernel
theorem dX9_seen_11 : decode cX9_seen 11 = .ok (.i2l, 1) := by decide +kernel
theorem dX9_seen_12 : decode cX9_seen 12 = .ok (.lconst 0, 1) := by decide +kernel
theorem dX9_seen_13 : decode cX9_seen 13 = .ok (.ldc2_w 107, 3) := by decide +kernel
theorem dX9_seen_16 : decode cX9_seen 16 = .ok (.invokestatic 92, 3) := by decide +kernel
theorem dX9_seen_19 : decode cX9_seen 19 = .ok (.ifCond .ne 6, 3) := by decide +kernel
theorem dX9_seen_22 : decode cX9_seen 22 = .ok (.bipush (-2), 2) := by decide +kernel
theorem dX9_seen_24 : decode cX9_seen 24 = .ok (.ireturn, 1) := by decide +kernel
theorem dX9_seen_25 : decode cX9_seen 25 = .ok (.aload_n 0, 1) := by decide +kernel
theorem dX9_seen_26 : decode cX9_seen 26 = .ok (.getfield 16, 3) := by decide +kernel
theorem dX9_seen_29 : decode cX9_seen 29 = .ok (.iload_n 1, 1) := by decide +kernel
theorem dX9_seen_30 : decode cX9_seen 30 = .ok (.iload_n 2, 1) := by decide +kernel
theorem dX9_seen_31 : decode cX9_seen 31 = .ok (.iastore, 1) := by decide +kernel
theorem dX9_seen_32 : decode cX9_seen 32 = .ok (.aload_n 0, 1) := by decide +kernel
theorem dX9_seen_33 : decode cX9_seen 33 = .ok (.invokevirtual 181, 3) := by decide +kernel
theorem dX9_seen_36 : decode cX9_seen 36 = .ok (.invokestatic 109, 3) := by decide +kernel
theorem dX9_seen_39 : decode cX9_seen 39 = .ok (.ireturn, 1) := by decide +kernel
theorem dX9_forget_0 : decode cX9_forget 0 = .ok (.aload_n 0, 1) := by decide +kernel
theorem dX9_forget_1 : decode cX9_forget 1 = .ok (.invokevirtual 181, 3) := by decide +kernel
theorem dX9_forget_4 : decode cX9_forget 4 = .ok (.invokestatic 109, 3) := by decide +kernel
theorem dX9_forget_7 : decode cX9_forget 7 = .ok (.istore_n 1, 1) := by decide +kernel
theorem dX9_forget_8 : decode cX9_forget 8 = .ok (.iconst 0, 1) := by decide +kernel
theorem dX9_forget_9 : decode cX9_forget 9 = .ok (.istore_n 2, 1) := by decide +kernel
theorem dX9_forget_10 : decode cX9_forget 10 = .ok (.iload_n 2, 1) := by decide +kernel
theorem dX9_forget_11 : decode cX9_forget 11 = .ok (.bipush 7, 2) := by decide +kernel
theorem dX9_forget_13 : decode cX9_forget 13 = .ok (.if_icmp .ge 17, 3) := by decide +kernel
theorem dX9_forget_16 : decode cX9_forget 16 = .ok (.aload_n 0, 1) := by decide +kernel
theorem dX9_forget_17 : decode cX9_forget 17 = .ok (.getfield 16, 3) := by decide +kernel
theorem dX9_forget_20 : decode cX9_forget 20 = .ok (.iload_n 2, 1) := by decide +kernel
theorem dX9_forget_21 : decode cX9_forget 21 = .ok (.bipush (-6), 2) := by decide +kernel
theorem dX9_forget_23 : decode cX9_forget 23 = .ok (.iastore, 1) := by decide +kernel
theorem dX9_forget_24 : decode cX9_forget 24 = .ok (.iinc 2 1, 3) := by decide +kernel
theorem dX9_forget_27 : decode cX9_forget 27 = .ok (.goto (-17), 3) := by decide +kernel
theorem dX9_forget_30 : decode cX9_forget 30 = .ok (.iload_n 1, 1) := by decide +kernel
theorem dX9_forget_31 : decode cX9_forget 31 = .ok (.ireturn, 1) := by decide +kernel
theorem dX9_isSeenSo_0 : decode cX9_isSeenSo 0 = .ok (.iconst 1, 1) := by decide +kernel
theorem dX9_isSeenSo_1 : decode cX9_isSeenSo 1 = .ok (.istore_n 1, 1) := by decide +kernel
theorem dX9_isSeenSo_2 : decode cX9_isSeenSo 2 = .ok (.iconst 0, 1) := by decide +kernel
theorem dX9_isSeenSo_3 : decode cX9_isSeenSo 3 = .ok (.istore_n 2, 1) := by decide +kernel
theorem dX9_isSeenSo_4 : decode cX9_isSeenSo 4 = .ok (.iload_n 2, 1) := by decide +kernel
theorem dX9_isSeenSo_5 : decode cX9_isSeenSo 5 = .ok (.aload_n 0, 1) := by decide +kernel
theorem dX9_isSeenSo_6 : decode cX9_isSeenSo 6 = .ok (.getfield 84, 3) := by decide +kernel
theorem dX9_isSeenSo_9 : decode cX9_isSeenSo 9 = .ok (.if_icmp .ge 47, 3) := by decide +kernel
theorem dX9_isSeenSo_12 : decode cX9_isSeenSo 12 = .ok (.iload_n 1, 1) := by decide +kernel
theorem dX9_isSeenSo_13 : decode cX9_isSeenSo 13 = .ok (.ifCond .eq 35, 3) := by decide +kernel
theorem dX9_isSeenSo_16 : decode cX9_isSeenSo 16 = .ok (.aload_n 0, 1) := by decide +kernel
theorem dX9_isSeenSo_17 : decode cX9_isSeenSo 17 = .ok (.getfield 16, 3) := by decide +kernel
theorem dX9_isSeenSo_20 : decode cX9_isSeenSo 20 = .ok (.iload_n 2, 1) := by decide +kernel
theorem dX9_isSeenSo_21 : decode cX9_isSeenSo 21 = .ok (.iaload, 1) := by decide +kernel
theorem dX9_isSeenSo_22 : decode cX9_isSeenSo 22 = .ok (.ifCond .lt 22, 3) := by decide +kernel
theorem dX9_isSeenSo_25 : decode cX9_isSeenSo 25 = .ok (.aload_n 0, 1) := by decide +kernel
theorem dX9_isSeenSo_26 : decode cX9_isSeenSo 26 = .ok (.getfield 16, 3) := by decide +kernel
theorem dX9_isSeenSo_29 : decode cX9_isSeenSo 29 = .ok (.iload_n 2, 1) := by decide +kernel
theorem dX9_isSeenSo_30 : decode cX9_isSeenSo 30 = .ok (.iaload, 1) := by decide +kernel
theorem dX9_isSeenSo_31 : decode cX9_isSeenSo 31 = .ok (.aload_n 0, 1) := by decide +kernel
theorem dX9_isSeenSo_32 : decode cX9_isSeenSo 32 = .ok (.getfield 7, 3) := by decide +kernel
theorem dX9_isSeenSo_35 : decode cX9_isSeenSo 35 = .ok (.iconst 3, 1) := by decide +kernel
theorem dX9_isSeenSo_36 : decode cX9_isSeenSo 36 = .ok (.iload_n 2, 1) := by decide +kernel
theorem dX9_isSeenSo_37 : decode cX9_isSeenSo 37 = .ok (.invokestatic 88, 3) := by decide +kernel
theorem dX9_isSeenSo_40 : decode cX9_isSeenSo 40 = .ok (.iaload, 1) := by decide +kernel
theorem dX9_isSeenSo_41 : decode cX9_isSeenSo 41 = .ok (.if_icmp .ne 7, 3) := by decide +kernel
theorem dX9_isSeenSo_44 : decode cX9_isSeenSo 44 = .ok (.iconst 1, 1) := by decide +kernel
theorem dX9_isSeenSo_45 : decode cX9_isSeenSo 45 = .ok (.goto 4, 3) := by decide +kernel
theorem dX9_isSeenSo_48 : decode cX9_isSeenSo 48 = .ok (.iconst 0, 1) := by decide +kernel
theorem dX9_isSeenSo_49 : decode cX9_isSeenSo 49 = .ok (.istore_n 1, 1) := by decide +kernel
theorem dX9_isSeenSo_50 : decode cX9_isSeenSo 50 = .ok (.iinc 2 1, 3) := by decide +kernel
theorem dX9_isSeenSo_53 : decode cX9_isSeenSo 53 = .ok (.goto (-49), 3) := by decide +kernel
theorem dX9_isSeenSo_56 : decode cX9_isSeenSo 56 = .ok (.iload_n 1, 1) := by decide +kernel
theorem dX9_isSeenSo_57 : decode cX9_isSeenSo 57 = .ok (.ireturn, 1) := by decide +kernel
theorem dX9_power_0 : decode cX9_power 0 = .ok (.iconst 1, 1) := by decide +kernel
theorem dX9_power_1 : decode cX9_power 1 = .ok (.istore_n 2, 1) := by decide +kernel
theorem dX9_power_2 : decode cX9_power 2 = .ok (.iconst 0, 1) := by decide +kernel
theorem dX9_power_3 : decode cX9_power 3 = .ok (.istore_n 3, 1) := by decide +kernel
theorem dX9_power_4 : decode cX9_power 4 = .ok (.iload_n 3, 1) := by decide +kernel
theorem dX9_power_5 : decode cX9_power 5 = .ok (.iload_n 1, 1) := by decide +kernel
theorem dX9_power_6 : decode cX9_power 6 = .ok (.if_icmp .ge 13, 3) := by decide +kernel
theorem dX9_power_9 : decode cX9_power 9 = .ok (.iload_n 2, 1) := by decide +kernel
theorem dX9_power_10 : decode cX9_power 10 = .ok (.iload_n 0, 1) := by decide +kernel
theorem dX9_power_11 : decode cX9_power 11 = .ok (.imul, 1) := by decide +kernel
theorem dX9_power_12 : decode cX9_power 12 = .ok (.istore_n 2, 1) := by decide +kernel
theorem dX9_power_13 : decode cX9_power 13 = .ok (.iinc 3 1, 3) := by decide +kernel
theorem dX9_power_16 : decode cX9_power 16 = .ok (.goto (-12), 3) := by decide +kernel
theorem dX9_power_19 : decode cX9_power 19 = .ok (.iload_n 2, 1) := by decide +kernel
theorem dX9_power_20 : decode cX9_power 20 = .ok (.ireturn, 1) := by decide +kernel
theorem dX9_layRow_0 : decode cX9_layRow 0 = .ok (.iload_n 1, 1) := by decide +kernel
theorem dX9_layRow_1 : decode cX9_layRow 1 = .ok (.istore_n 3, 1) := by decide +kernel
theorem dX9_layRow_2 : decode cX9_layRow 2 = .ok (.aload_n 0, 1) := by decide +kernel
theorem dX9_layRow_3 : decode cX9_layRow 3 = .ok (.iconst 0, 1) := by decide +kernel
theorem dX9_layRow_4 : decode cX9_layRow 4 = .ok (.putfield 184, 3) := by decide +kernel
theorem dX9_layRow_7 : decode cX9_layRow 7 = .ok (.iload_n 2, 1) := by decide +kernel
theorem dX9_layRow_8 : decode cX9_layRow 8 = .ok (.iconst 1, 1) := by decide +kernel
theorem dX9_layRow_9 : decode cX9_layRow 9 = .ok (.isub, 1) := by decide +kernel
theorem dX9_layRow_10 : decode cX9_layRow 10 = .ok (.istore 4, 2) := by decide +kernel
theorem dX9_layRow_12 : decode cX9_layRow 12 = .ok (.iload 4, 2) := by decide +kernel
theorem dX9_layRow_14 : decode cX9_layRow 14 = .ok (.ifCond .lt 41, 3) := by decide +kernel
theorem dX9_layRow_17 : decode cX9_layRow 17 = .ok (.aload_n 0, 1) := by decide +kernel
theorem dX9_layRow_18 : decode cX9_layRow 18 = .ok (.getfield 55, 3) := by decide +kernel
theorem dX9_layRow_21 : decode cX9_layRow 21 = .ok (.iload 4, 2) := by decide +kernel
theorem dX9_layRow_23 : decode cX9_layRow 23 = .ok (.iload_n 3, 1) := by decide +kernel
theorem dX9_layRow_24 : decode cX9_layRow 24 = .ok (.iconst 4, 1) := by decide +kernel
theorem dX9_layRow_25 : decode cX9_layRow 25 = .ok (.irem, 1) := by decide +kernel
theorem dX9_layRow_26 : decode cX9_layRow 26 = .ok (.iastore, 1) := by decide +kernel
theorem dX9_layRow_27 : decode cX9_layRow 27 = .ok (.aload_n 0, 1) := by decide +kernel
theorem dX9_layRow_28 : decode cX9_layRow 28 = .ok (.dup, 1) := by decide +kernel
theorem dX9_layRow_29 : decode cX9_layRow 29 = .ok (.getfield 184, 3) := by decide +kernel
theorem dX9_layRow_32 : decode cX9_layRow 32 = .ok (.iconst 1, 1) := by decide +kernel
theorem dX9_layRow_33 : decode cX9_layRow 33 = .ok (.aload_n 0, 1) := by decide +kernel
theorem dX9_layRow_34 : decode cX9_layRow 34 = .ok (.getfield 55, 3) := by decide +kernel
theorem dX9_layRow_37 : decode cX9_layRow 37 = .ok (.iload 4, 2) := by decide +kernel
theorem dX9_layRow_39 : decode cX9_layRow 39 = .ok (.iaload, 1) := by decide +kernel
theorem dX9_layRow_40 : decode cX9_layRow 40 = .ok (.ishl, 1) := by decide +kernel
theorem dX9_layRow_41 : decode cX9_layRow 41 = .ok (.ior, 1) := by decide +kernel
theorem dX9_layRow_42 : decode cX9_layRow 42 = .ok (.putfield 184, 3) := by decide +kernel
theorem dX9_layRow_45 : decode cX9_layRow 45 = .ok (.iload_n 3, 1) := by decide +kernel
theorem dX9_layRow_46 : decode cX9_layRow 46 = .ok (.iconst 4, 1) := by decide +kernel
theorem dX9_layRow_47 : decode cX9_layRow 47 = .ok (.idiv, 1) := by decide +kernel
theorem dX9_layRow_48 : decode cX9_layRow 48 = .ok (.istore_n 3, 1) := by decide +kernel
theorem dX9_layRow_49 : decode cX9_layRow 49 = .ok (.iinc 4 (-1), 3) := by decide +kernel
theorem dX9_layRow_52 : decode cX9_layRow 52 = .ok (.goto (-40), 3) := by decide +kernel
theorem dX9_layRow_55 : decode cX9_layRow 55 = .ok (.return_, 1) := by decide +kernel
theorem dX9_canGo_0 : decode cX9_canGo 0 = .ok (.aload_n 0, 1) := by decide +kernel
theorem dX9_canGo_1 : decode cX9_canGo 1 = .ok (.invokevirtual 175, 3) := by decide +kernel
theorem dX9_canGo_4 : decode cX9_canGo 4 = .ok (.aload_n 0, 1) := by decide +kernel
theorem dX9_canGo_5 : decode cX9_canGo 5 = .ok (.bipush (-6), 2) := by decide +kernel
theorem dX9_canGo_7 : decode cX9_canGo 7 = .ok (.putfield 127, 3) := by decide +kernel
theorem dX9_canGo_10 : decode cX9_canGo 10 = .ok (.iconst 0, 1) := by decide +kernel
theorem dX9_canGo_11 : decode cX9_canGo 11 = .ok (.istore_n 2, 1) := by decide +kernel
theorem dX9_canGo_12 : decode cX9_canGo 12 = .ok (.iload_n 2, 1) := by decide +kernel
theorem dX9_canGo_13 : decode cX9_canGo 13 = .ok (.bipush 7, 2) := by decide +kernel
theorem dX9_canGo_15 : decode cX9_canGo 15 = .ok (.if_icmp .ge 17, 3) := by decide +kernel
theorem dX9_canGo_18 : decode cX9_canGo 18 = .ok (.aload_n 0, 1) := by decide +kernel
theorem dX9_canGo_19 : decode cX9_canGo 19 = .ok (.getfield 43, 3) := by decide +kernel
theorem dX9_canGo_22 : decode cX9_canGo 22 = .ok (.iload_n 2, 1) := by decide +kernel
theorem dX9_canGo_23 : decode cX9_canGo 23 = .ok (.bipush (-6), 2) := by decide +kernel
theorem dX9_canGo_25 : decode cX9_canGo 25 = .ok (.iastore, 1) := by decide +kernel
theorem dX9_canGo_26 : decode cX9_canGo 26 = .ok (.iinc 2 1, 3) := by decide +kernel
theorem dX9_canGo_29 : decode cX9_canGo 29 = .ok (.goto (-17), 3) := by decide +kernel
theorem dX9_canGo_32 : decode cX9_canGo 32 = .ok (.iconst 0, 1) := by decide +kernel
theorem dX9_canGo_33 : decode cX9_canGo 33 = .ok (.istore_n 2, 1) := by decide +kernel
theorem dX9_canGo_34 : decode cX9_canGo 34 = .ok (.iload_n 2, 1) := by decide +kernel
theorem dX9_canGo_35 : decode cX9_canGo 35 = .ok (.iload_n 1, 1) := by decide +kernel
theorem dX9_canGo_36 : decode cX9_canGo 36 = .ok (.if_icmp .ge 85, 3) := by decide +kernel
theorem dX9_canGo_39 : decode cX9_canGo 39 = .ok (.aload_n 0, 1) := by decide +kernel
theorem dX9_canGo_40 : decode cX9_canGo 40 = .ok (.aload_n 0, 1) := by decide +kernel
theorem dX9_canGo_41 : decode cX9_canGo 41 = .ok (.getfield 55, 3) := by decide +kernel
theorem dX9_canGo_44 : decode cX9_canGo 44 = .ok (.iload_n 2, 1) := by decide +kernel
theorem dX9_canGo_45 : decode cX9_canGo 45 = .ok (.iaload, 1) := by decide +kernel
theorem dX9_canGo_46 : decode cX9_canGo 46 = .ok (.invokevirtual 113, 3) := by decide +kernel
theorem dX9_canGo_49 : decode cX9_canGo 49 = .ok (.ifCond .eq 16, 3) := by decide +kernel
theorem dX9_canGo_52 : decode cX9_canGo 52 = .ok (.aload_n 0, 1) := by decide +kernel
theorem dX9_canGo_53 : decode cX9_canGo 53 = .ok (.aload_n 0, 1) := by decide +kernel
theorem dX9_canGo_54 : decode cX9_canGo 54 = .ok (.getfield 55, 3) := by decide +kernel
theorem dX9_canGo_57 : decode cX9_canGo 57 = .ok (.iload_n 2, 1) := by decide +kernel
theorem dX9_canGo_58 : decode cX9_canGo 58 = .ok (.iaload, 1) := by decide +kernel
theorem dX9_canGo_59 : decode cX9_canGo 59 = .ok (.invokevirtual 139, 3) := by decide +kernel
theorem dX9_canGo_62 : decode cX9_canGo 62 = .ok (.goto 5, 3) := by decide +kernel
theorem dX9_canGo_65 : decode cX9_canGo 65 = .ok (.bipush (-6), 2) := by decide +kernel
theorem dX9_canGo_67 : decode cX9_canGo 67 = .ok (.istore_n 3, 1) := by decide +kernel
theorem dX9_canGo_68 : decode cX9_canGo 68 = .ok (.iload_n 3, 1) := by decide +kernel
theorem dX9_canGo_69 : decode cX9_canGo 69 = .ok (.ifCond .ge 5, 3) := by decide +kernel
theorem dX9_canGo_72 : decode cX9_canGo 72 = .ok (.iconst 0, 1) := by decide +kernel
theorem dX9_canGo_73 : decode cX9_canGo 73 = .ok (.ireturn, 1) := by decide +kernel
theorem dX9_canGo_74 : decode cX9_canGo 74 = .ok (.aload_n 0, 1) := by decide +kernel
theorem dX9_canGo_75 : decode cX9_canGo 75 = .ok (.getfield 43, 3) := by decide +kernel
theorem dX9_canGo_78 : decode cX9_canGo 78 = .ok (.iload_n 3, 1) := by decide +kernel
theorem dX9_canGo_79 : decode cX9_canGo 79 = .ok (.aload_n 0, 1) := by decide +kernel
theorem dX9_canGo_80 : decode cX9_canGo 80 = .ok (.getfield 43, 3) := by decide +kernel
theorem dX9_canGo_83 : decode cX9_canGo 83 = .ok (.iload_n 3, 1) := by decide +kernel
theorem dX9_canGo_84 : decode cX9_canGo 84 = .ok (.iaload, 1) := by decide +kernel
theorem dX9_canGo_85 : decode cX9_canGo 85 = .ok (.ifCond .ge 12, 3) := by decide +kernel
theorem dX9_canGo_88 : decode cX9_canGo 88 = .ok (.aload_n 0, 1) := by decide +kernel
theorem dX9_canGo_89 : decode cX9_canGo 89 = .ok (.getfield 55, 3) := by decide +kernel
theorem dX9_canGo_92 : decode cX9_canGo 92 = .ok (.iload_n 2, 1) := by decide +kernel
theorem dX9_canGo_93 : decode cX9_canGo 93 = .ok (.iaload, 1) := by decide +kernel
theorem dX9_canGo_94 : decode cX9_canGo 94 = .ok (.goto 9, 3) := by decide +kernel
theorem dX9_canGo_97 : decode cX9_canGo 97 = .ok (.aload_n 0, 1) := by decide +kernel
theorem dX9_canGo_98 : decode cX9_canGo 98 = .ok (.getfield 43, 3) := by decide +kernel
theorem dX9_canGo_101 : decode cX9_canGo 101 = .ok (.iload_n 3, 1) := by decide +kernel
theorem dX9_canGo_102 : decode cX9_canGo 102 = .ok (.iaload, 1) := by decide +kernel
theorem dX9_canGo_103 : decode cX9_canGo 103 = .ok (.iastore, 1) := by decide +kernel
theorem dX9_canGo_104 : decode cX9_canGo 104 = .ok (.aload_n 0, 1) := by decide +kernel
theorem dX9_canGo_105 : decode cX9_canGo 105 = .ok (.aload_n 0, 1) := by decide +kernel
theorem dX9_canGo_106 : decode cX9_canGo 106 = .ok (.getfield 55, 3) := by decide +kernel
theorem dX9_canGo_109 : decode cX9_canGo 109 = .ok (.iload_n 2, 1) := by decide +kernel
theorem dX9_canGo_110 : decode cX9_canGo 110 = .ok (.iaload, 1) := by decide +kernel
theorem dX9_canGo_111 : decode cX9_canGo 111 = .ok (.iload_n 3, 1) := by decide +kernel
theorem dX9_canGo_112 : decode cX9_canGo 112 = .ok (.invokevirtual 151, 3) := by decide +kernel
theorem dX9_canGo_115 : decode cX9_canGo 115 = .ok (.iinc 2 1, 3) := by decide +kernel
theorem dX9_canGo_118 : decode cX9_canGo 118 = .ok (.goto (-84), 3) := by decide +kernel
theorem dX9_canGo_121 : decode cX9_canGo 121 = .ok (.iconst 1, 1) := by decide +kernel
theorem dX9_canGo_122 : decode cX9_canGo 122 = .ok (.ireturn, 1) := by decide +kernel
theorem dX9_countRow_0 : decode cX9_countRow 0 = .ok (.aload_n 0, 1) := by decide +kernel
theorem dX9_countRow_1 : decode cX9_countRow 1 = .ok (.getfield 187, 3) := by decide +kernel
theorem dX9_countRow_4 : decode cX9_countRow 4 = .ok (.ifCond .ne 33, 3) := by decide +kernel
theorem dX9_countRow_7 : decode cX9_countRow 7 = .ok (.aload_n 0, 1) := by decide +kernel
theorem dX9_countRow_8 : decode cX9_countRow 8 = .ok (.iload_n 1, 1) := by decide +kernel
theorem dX9_countRow_9 : decode cX9_countRow 9 = .ok (.putfield 190, 3) := by decide +kernel
theorem dX9_countRow_12 : decode cX9_countRow 12 = .ok (.iconst 0, 1) := by decide +kernel
theorem dX9_countRow_13 : decode cX9_countRow 13 = .ok (.istore_n 2, 1) := by decide +kernel
theorem dX9_countRow_14 : decode cX9_countRow 14 = .ok (.iload_n 2, 1) := by decide +kernel
theorem dX9_countRow_15 : decode cX9_countRow 15 = .ok (.iload_n 1, 1) := by decide +kernel
theorem dX9_countRow_16 : decode cX9_countRow 16 = .ok (.if_icmp .ge 21, 3) := by decide +kernel
theorem dX9_countRow_19 : decode cX9_countRow 19 = .ok (.aload_n 0, 1) := by decide +kernel
theorem dX9_countRow_20 : decode cX9_countRow 20 = .ok (.getfield 58, 3) := by decide +kernel
theorem dX9_countRow_23 : decode cX9_countRow 23 = .ok (.iload_n 2, 1) := by decide +kernel
theorem dX9_countRow_24 : decode cX9_countRow 24 = .ok (.aload_n 0, 1) := by decide +kernel
theorem dX9_countRow_25 : decode cX9_countRow 25 = .ok (.getfield 55, 3) := by decide +kernel
theorem dX9_countRow_28 : decode cX9_countRow 28 = .ok (.iload_n 2, 1) := by decide +kernel
theorem dX9_countRow_29 : decode cX9_countRow 29 = .ok (.iaload, 1) := by decide +kernel
theorem dX9_countRow_30 : decode cX9_countRow 30 = .ok (.iastore, 1) := by decide +kernel
theorem dX9_countRow_31 : decode cX9_countRow 31 = .ok (.iinc 2 1, 3) := by decide +kernel
theorem dX9_countRow_34 : decode cX9_countRow 34 = .ok (.goto (-20), 3) := by decide +kernel
theorem dX9_countRow_37 : decode cX9_countRow 37 = .ok (.aload_n 0, 1) := by decide +kernel
theorem dX9_countRow_38 : decode cX9_countRow 38 = .ok (.dup, 1) := by decide +kernel
theorem dX9_countRow_39 : decode cX9_countRow 39 = .ok (.getfield 187, 3) := by decide +kernel
theorem dX9_countRow_42 : decode cX9_countRow 42 = .ok (.iconst 1, 1) := by decide +kernel
theorem dX9_countRow_43 : decode cX9_countRow 43 = .ok (.iadd, 1) := by decide +kernel
theorem dX9_countRow_44 : decode cX9_countRow 44 = .ok (.putfield 187, 3) := by decide +kernel
theorem dX9_countRow_47 : decode cX9_countRow 47 = .ok (.aload_n 0, 1) := by decide +kernel
theorem dX9_countRow_48 : decode cX9_countRow 48 = .ok (.dup, 1) := by decide +kernel
theorem dX9_countRow_49 : decode cX9_countRow 49 = .ok (.getfield 193, 3) := by decide +kernel
theorem dX9_countRow_52 : decode cX9_countRow 52 = .ok (.aload_n 0, 1) := by decide +kernel
theorem dX9_countRow_53 : decode cX9_countRow 53 = .ok (.getfield 184, 3) := by decide +kernel
theorem dX9_countRow_56 : decode cX9_countRow 56 = .ok (.iand, 1) := by decide +kernel
theorem dX9_countRow_57 : decode cX9_countRow 57 = .ok (.putfield 193, 3) := by decide +kernel
theorem dX9_countRow_60 : decode cX9_countRow 60 = .ok (.aload_n 0, 1) := by decide +kernel
theorem dX9_countRow_61 : decode cX9_countRow 61 = .ok (.dup, 1) := by decide +kernel
theorem dX9_countRow_62 : decode cX9_countRow 62 = .ok (.getfield 196, 3) := by decide +kernel
theorem dX9_countRow_65 : decode cX9_countRow 65 = .ok (.aload_n 0, 1) := by decide +kernel
theorem dX9_countRow_66 : decode cX9_countRow 66 = .ok (.getfield 184, 3) := by decide +kernel
theorem dX9_countRow_69 : decode cX9_countRow 69 = .ok (.ior, 1) := by decide +kernel
theorem dX9_countRow_70 : decode cX9_countRow 70 = .ok (.putfield 196, 3) := by decide +kernel
theorem dX9_countRow_73 : decode cX9_countRow 73 = .ok (.iconst 0, 1) := by decide +kernel
theorem dX9_countRow_74 : decode cX9_countRow 74 = .ok (.istore_n 2, 1) := by decide +kernel
theorem dX9_countRow_75 : decode cX9_countRow 75 = .ok (.iload_n 2, 1) := by decide +kernel
theorem dX9_countRow_76 : decode cX9_countRow 76 = .ok (.aload_n 0, 1) := by decide +kernel
theorem dX9_countRow_77 : decode cX9_countRow 77 = .ok (.getfield 84, 3) := by decide +kernel
theorem dX9_countRow_80 : decode cX9_countRow 80 = .ok (.if_icmp .ge 63, 3) := by decide +kernel
theorem dX9_countRow_83 : decode cX9_countRow 83 = .ok (.aload_n 0, 1) := by decide +kernel
theorem dX9_countRow_84 : decode cX9_countRow 84 = .ok (.getfield 61, 3) := by decide +kernel
theorem dX9_countRow_87 : decode cX9_countRow 87 = .ok (.iload_n 2, 1) := by decide +kernel
theorem dX9_countRow_88 : decode cX9_countRow 88 = .ok (.dup2, 1) := by decide +kernel
theorem dX9_countRow_89 : decode cX9_countRow 89 = .ok (.iaload, 1) := by decide +kernel
theorem dX9_countRow_90 : decode cX9_countRow 90 = .ok (.iconst 1, 1) := by decide +kernel
theorem dX9_countRow_91 : decode cX9_countRow 91 = .ok (.aload_n 0, 1) := by decide +kernel
theorem dX9_countRow_92 : decode cX9_countRow 92 = .ok (.getfield 43, 3) := by decide +kernel
theorem dX9_countRow_95 : decode cX9_countRow 95 = .ok (.iload_n 2, 1) := by decide +kernel
theorem dX9_countRow_96 : decode cX9_countRow 96 = .ok (.iaload, 1) := by decide +kernel
theorem dX9_countRow_97 : decode cX9_countRow 97 = .ok (.ifCond .ge 7, 3) := by decide +kernel
theorem dX9_countRow_100 : decode cX9_countRow 100 = .ok (.iconst 4, 1) := by decide +kernel
theorem dX9_countRow_101 : decode cX9_countRow 101 = .ok (.goto 9, 3) := by decide +kernel
theorem dX9_countRow_104 : decode cX9_countRow 104 = .ok (.aload_n 0, 1) := by decide +kernel
theorem dX9_countRow_105 : decode cX9_countRow 105 = .ok (.getfield 43, 3) := by decide +kernel
theorem dX9_countRow_108 : decode cX9_countRow 108 = .ok (.iload_n 2, 1) := by decide +kernel
theorem dX9_countRow_109 : decode cX9_countRow 109 = .ok (.iaload, 1) := by decide +kernel
theorem dX9_countRow_110 : decode cX9_countRow 110 = .ok (.ishl, 1) := by decide +kernel
theorem dX9_countRow_111 : decode cX9_countRow 111 = .ok (.ior, 1) := by decide +kernel
theorem dX9_countRow_112 : decode cX9_countRow 112 = .ok (.iastore, 1) := by decide +kernel
theorem dX9_countRow_113 : decode cX9_countRow 113 = .ok (.aload_n 0, 1) := by decide +kernel
theorem dX9_countRow_114 : decode cX9_countRow 114 = .ok (.getfield 64, 3) := by decide +kernel
theorem dX9_countRow_117 : decode cX9_countRow 117 = .ok (.bipush 10, 2) := by decide +kernel
theorem dX9_countRow_119 : decode cX9_countRow 119 = .ok (.iload_n 2, 1) := by decide +kernel
theorem dX9_countRow_120 : decode cX9_countRow 120 = .ok (.imul, 1) := by decide +kernel
theorem dX9_countRow_121 : decode cX9_countRow 121 = .ok (.aload_n 0, 1) := by decide +kernel
theorem dX9_countRow_122 : decode cX9_countRow 122 = .ok (.getfield 7, 3) := by decide +kernel
theorem dX9_countRow_125 : decode cX9_countRow 125 = .ok (.iconst 3, 1) := by decide +kernel
theorem dX9_countRow_126 : decode cX9_countRow 126 = .ok (.iload_n 2, 1) := by decide +kernel
theorem dX9_countRow_127 : decode cX9_countRow 127 = .ok (.invokestatic 88, 3) := by decide +kernel
theorem dX9_countRow_130 : decode cX9_countRow 130 = .ok (.iaload, 1) := by decide +kernel
theorem dX9_countRow_131 : decode cX9_countRow 131 = .ok (.iadd, 1) := by decide +kernel
theorem dX9_countRow_132 : decode cX9_countRow 132 = .ok (.dup2, 1) := by decide +kernel
theorem dX9_countRow_133 : decode cX9_countRow 133 = .ok (.iaload, 1) := by decide +kernel
theorem dX9_countRow_134 : decode cX9_countRow 134 = .ok (.iconst 1, 1) := by decide +kernel
theorem dX9_countRow_135 : decode cX9_countRow 135 = .ok (.iadd, 1) := by decide +kernel
theorem dX9_countRow_136 : decode cX9_countRow 136 = .ok (.iastore, 1) := by decide +kernel
theorem dX9_countRow_137 : decode cX9_countRow 137 = .ok (.iinc 2 1, 3) := by decide +kernel
theorem dX9_countRow_140 : decode cX9_countRow 140 = .ok (.goto (-65), 3) := by decide +kernel
theorem dX9_countRow_143 : decode cX9_countRow 143 = .ok (.return_, 1) := by decide +kernel
theorem dX9_goRows_0 : decode cX9_goRows 0 = .ok (.aload_n 0, 1) := by decide +kernel
theorem dX9_goRows_1 : decode cX9_goRows 1 = .ok (.invokevirtual 169, 3) := by decide +kernel
theorem dX9_goRows_4 : decode cX9_goRows 4 = .ok (.aload_n 0, 1) := by decide +kernel
theorem dX9_goRows_5 : decode cX9_goRows 5 = .ok (.iconst 0, 1) := by decide +kernel
theorem dX9_goRows_6 : decode cX9_goRows 6 = .ok (.putfield 187, 3) := by decide +kernel
theorem dX9_goRows_9 : decode cX9_goRows 9 = .ok (.aload_n 0, 1) := by decide +kernel
theorem dX9_goRows_10 : decode cX9_goRows 10 = .ok (.bipush (-6), 2) := by decide +kernel
theorem dX9_goRows_12 : decode cX9_goRows 12 = .ok (.putfield 190, 3) := by decide +kernel
theorem dX9_goRows_15 : decode cX9_goRows 15 = .ok (.aload_n 0, 1) := by decide +kernel
theorem dX9_goRows_16 : decode cX9_goRows 16 = .ok (.bipush 15, 2) := by decide +kernel
theorem dX9_goRows_18 : decode cX9_goRows 18 = .ok (.putfield 193, 3) := by decide +kernel
theorem dX9_goRows_21 : decode cX9_goRows 21 = .ok (.aload_n 0, 1) := by decide +kernel
theorem dX9_goRows_22 : decode cX9_goRows 22 = .ok (.iconst 0, 1) := by decide +kernel
theorem dX9_goRows_23 : decode cX9_goRows 23 = .ok (.putfield 196, 3) := by decide +kernel
theorem dX9_goRows_26 : decode cX9_goRows 26 = .ok (.iconst 0, 1) := by decide +kernel
theorem dX9_goRows_27 : decode cX9_goRows 27 = .ok (.istore_n 2, 1) := by decide +kernel
theorem dX9_goRows_28 : decode cX9_goRows 28 = .ok (.iload_n 2, 1) := by decide +kernel
theorem dX9_goRows_29 : decode cX9_goRows 29 = .ok (.bipush 7, 2) := by decide +kernel
theorem dX9_goRows_31 : decode cX9_goRows 31 = .ok (.if_icmp .ge 16, 3) := by decide +kernel
theorem dX9_goRows_34 : decode cX9_goRows 34 = .ok (.aload_n 0, 1) := by decide +kernel
theorem dX9_goRows_35 : decode cX9_goRows 35 = .ok (.getfield 61, 3) := by decide +kernel
theorem dX9_goRows_38 : decode cX9_goRows 38 = .ok (.iload_n 2, 1) := by decide +kernel
theorem dX9_goRows_39 : decode cX9_goRows 39 = .ok (.iconst 0, 1) := by decide +kernel
theorem dX9_goRows_40 : decode cX9_goRows 40 = .ok (.iastore, 1) := by decide +kernel
theorem dX9_goRows_41 : decode cX9_goRows 41 = .ok (.iinc 2 1, 3) := by decide +kernel
theorem dX9_goRows_44 : decode cX9_goRows 44 = .ok (.goto (-16), 3) := by decide +kernel
theorem dX9_goRows_47 : decode cX9_goRows 47 = .ok (.iconst 0, 1) := by decide +kernel
theorem dX9_goRows_48 : decode cX9_goRows 48 = .ok (.istore_n 2, 1) := by decide +kernel
theorem dX9_goRows_49 : decode cX9_goRows 49 = .ok (.iload_n 2, 1) := by decide +kernel
theorem dX9_goRows_50 : decode cX9_goRows 50 = .ok (.bipush 70, 2) := by decide +kernel
theorem dX9_goRows_52 : decode cX9_goRows 52 = .ok (.if_icmp .ge 16, 3) := by decide +kernel
theorem dX9_goRows_55 : decode cX9_goRows 55 = .ok (.aload_n 0, 1) := by decide +kernel
theorem dX9_goRows_56 : decode cX9_goRows 56 = .ok (.getfield 64, 3) := by decide +kernel
theorem dX9_goRows_59 : decode cX9_goRows 59 = .ok (.iload_n 2, 1) := by decide +kernel
theorem dX9_goRows_60 : decode cX9_goRows 60 = .ok (.iconst 0, 1) := by decide +kernel
theorem dX9_goRows_61 : decode cX9_goRows 61 = .ok (.iastore, 1) := by decide +kernel
theorem dX9_goRows_62 : decode cX9_goRows 62 = .ok (.iinc 2 1, 3) := by decide +kernel
theorem dX9_goRows_65 : decode cX9_goRows 65 = .ok (.goto (-16), 3) := by decide +kernel
theorem dX9_goRows_68 : decode cX9_goRows 68 = .ok (.iconst 0, 1) := by decide +kernel
theorem dX9_goRows_69 : decode cX9_goRows 69 = .ok (.istore_n 2, 1) := by decide +kernel
theorem dX9_goRows_70 : decode cX9_goRows 70 = .ok (.iload_n 2, 1) := by decide +kernel
theorem dX9_goRows_71 : decode cX9_goRows 71 = .ok (.iload_n 1, 1) := by decide +kernel
theorem dX9_goRows_72 : decode cX9_goRows 72 = .ok (.if_icmp .gt 52, 3) := by decide +kernel
theorem dX9_goRows_75 : decode cX9_goRows 75 = .ok (.iconst 0, 1) := by decide +kernel
theorem dX9_goRows_76 : decode cX9_goRows 76 = .ok (.istore_n 3, 1) := by decide +kernel
theorem dX9_goRows_77 : decode cX9_goRows 77 = .ok (.iload_n 3, 1) := by decide +kernel
theorem dX9_goRows_78 : decode cX9_goRows 78 = .ok (.iconst 4, 1) := by decide +kernel
theorem dX9_goRows_79 : decode cX9_goRows 79 = .ok (.iload_n 2, 1) := by decide +kernel
theorem dX9_goRows_80 : decode cX9_goRows 80 = .ok (.invokestatic 199, 3) := by decide +kernel
theorem dX9_goRows_83 : decode cX9_goRows 83 = .ok (.if_icmp .ge 35, 3) := by decide +kernel
theorem dX9_goRows_86 : decode cX9_goRows 86 = .ok (.aload_n 0, 1) := by decide +kernel
theorem dX9_goRows_87 : decode cX9_goRows 87 = .ok (.iload_n 3, 1) := by decide +kernel
theorem dX9_goRows_88 : decode cX9_goRows 88 = .ok (.iload_n 2, 1) := by decide +kernel
theorem dX9_goRows_89 : decode cX9_goRows 89 = .ok (.invokevirtual 202, 3) := by decide +kernel
theorem dX9_goRows_92 : decode cX9_goRows 92 = .ok (.aload_n 0, 1) := by decide +kernel
theorem dX9_goRows_93 : decode cX9_goRows 93 = .ok (.iload_n 2, 1) := by decide +kernel
theorem dX9_goRows_94 : decode cX9_goRows 94 = .ok (.invokevirtual 205, 3) := by decide +kernel
theorem dX9_goRows_97 : decode cX9_goRows 97 = .ok (.ifCond .eq 15, 3) := by decide +kernel
theorem dX9_goRows_100 : decode cX9_goRows 100 = .ok (.aload_n 0, 1) := by decide +kernel
theorem dX9_goRows_101 : decode cX9_goRows 101 = .ok (.invokevirtual 208, 3) := by decide +kernel
theorem dX9_goRows_104 : decode cX9_goRows 104 = .ok (.ifCond .eq 8, 3) := by decide +kernel
theorem dX9_goRows_107 : decode cX9_goRows 107 = .ok (.aload_n 0, 1) := by decide +kernel
theorem dX9_goRows_108 : decode cX9_goRows 108 = .ok (.iload_n 2, 1) := by decide +kernel
theorem dX9_goRows_109 : decode cX9_goRows 109 = .ok (.invokevirtual 212, 3) := by decide +kernel
theorem dX9_goRows_112 : decode cX9_goRows 112 = .ok (.iinc 3 1, 3) := by decide +kernel
theorem dX9_goRows_115 : decode cX9_goRows 115 = .ok (.goto (-38), 3) := by decide +kernel
theorem dX9_goRows_118 : decode cX9_goRows 118 = .ok (.iinc 2 1, 3) := by decide +kernel
theorem dX9_goRows_121 : decode cX9_goRows 121 = .ok (.goto (-51), 3) := by decide +kernel
theorem dX9_goRows_124 : decode cX9_goRows 124 = .ok (.aload_n 0, 1) := by decide +kernel
theorem dX9_goRows_125 : decode cX9_goRows 125 = .ok (.invokevirtual 175, 3) := by decide +kernel
theorem dX9_goRows_128 : decode cX9_goRows 128 = .ok (.return_, 1) := by decide +kernel
theorem dX9_rows_0 : decode cX9_rows 0 = .ok (.iload_n 1, 1) := by decide +kernel
theorem dX9_rows_1 : decode cX9_rows 1 = .ok (.i2l, 1) := by decide +kernel
theorem dX9_rows_2 : decode cX9_rows 2 = .ok (.lconst 0, 1) := by decide +kernel
theorem dX9_rows_3 : decode cX9_rows 3 = .ok (.ldc2_w 215, 3) := by decide +kernel
theorem dX9_rows_6 : decode cX9_rows 6 = .ok (.invokestatic 92, 3) := by decide +kernel
theorem dX9_rows_9 : decode cX9_rows 9 = .ok (.ifCond .eq 15, 3) := by decide +kernel
theorem dX9_rows_12 : decode cX9_rows 12 = .ok (.iload_n 2, 1) := by decide +kernel
theorem dX9_rows_13 : decode cX9_rows 13 = .ok (.i2l, 1) := by decide +kernel
theorem dX9_rows_14 : decode cX9_rows 14 = .ok (.lconst 0, 1) := by decide +kernel
theorem dX9_rows_15 : decode cX9_rows 15 = .ok (.ldc2_w 107, 3) := by decide +kernel
theorem dX9_rows_18 : decode cX9_rows 18 = .ok (.invokestatic 92, 3) := by decide +kernel
theorem dX9_rows_21 : decode cX9_rows 21 = .ok (.ifCond .ne 6, 3) := by decide +kernel
theorem dX9_rows_24 : decode cX9_rows 24 = .ok (.bipush (-2), 2) := by decide +kernel
theorem dX9_rows_26 : decode cX9_rows 26 = .ok (.ireturn, 1) := by decide +kernel
theorem dX9_rows_27 : decode cX9_rows 27 = .ok (.aload_n 0, 1) := by decide +kernel
theorem dX9_rows_28 : decode cX9_rows 28 = .ok (.iload_n 1, 1) := by decide +kernel
theorem dX9_rows_29 : decode cX9_rows 29 = .ok (.invokevirtual 217, 3) := by decide +kernel
theorem dX9_rows_32 : decode cX9_rows 32 = .ok (.iload_n 2, 1) := by decide +kernel
theorem dX9_rows_33 : decode cX9_rows 33 = .ok (.tableswitch 62 0 3 #[31, 36, 41, 57], 31) := by decide +kernel
theorem dX9_rows_64 : decode cX9_rows 64 = .ok (.aload_n 0, 1) := by decide +kernel
theorem dX9_rows_65 : decode cX9_rows 65 = .ok (.getfield 187, 3) := by decide +kernel
theorem dX9_rows_68 : decode cX9_rows 68 = .ok (.ireturn, 1) := by decide +kernel
theorem dX9_rows_69 : decode cX9_rows 69 = .ok (.aload_n 0, 1) := by decide +kernel
theorem dX9_rows_70 : decode cX9_rows 70 = .ok (.getfield 190, 3) := by decide +kernel
theorem dX9_rows_73 : decode cX9_rows 73 = .ok (.ireturn, 1) := by decide +kernel
theorem dX9_rows_74 : decode cX9_rows 74 = .ok (.aload_n 0, 1) := by decide +kernel
theorem dX9_rows_75 : decode cX9_rows 75 = .ok (.getfield 187, 3) := by decide +kernel
theorem dX9_rows_78 : decode cX9_rows 78 = .ok (.ifCond .ne 7, 3) := by decide +kernel
theorem dX9_rows_81 : decode cX9_rows 81 = .ok (.iconst 0, 1) := by decide +kernel
theorem dX9_rows_82 : decode cX9_rows 82 = .ok (.goto 7, 3) := by decide +kernel
theorem dX9_rows_85 : decode cX9_rows 85 = .ok (.aload_n 0, 1) := by decide +kernel
theorem dX9_rows_86 : decode cX9_rows 86 = .ok (.getfield 193, 3) := by decide +kernel
theorem dX9_rows_89 : decode cX9_rows 89 = .ok (.ireturn, 1) := by decide +kernel
theorem dX9_rows_90 : decode cX9_rows 90 = .ok (.aload_n 0, 1) := by decide +kernel
theorem dX9_rows_91 : decode cX9_rows 91 = .ok (.getfield 196, 3) := by decide +kernel
theorem dX9_rows_94 : decode cX9_rows 94 = .ok (.ireturn, 1) := by decide +kernel
theorem dX9_rows_95 : decode cX9_rows 95 = .ok (.iload_n 2, 1) := by decide +kernel
theorem dX9_rows_96 : decode cX9_rows 96 = .ok (.iconst 4, 1) := by decide +kernel
theorem dX9_rows_97 : decode cX9_rows 97 = .ok (.isub, 1) := by decide +kernel
theorem dX9_rows_98 : decode cX9_rows 98 = .ok (.aload_n 0, 1) := by decide +kernel
theorem dX9_rows_99 : decode cX9_rows 99 = .ok (.getfield 190, 3) := by decide +kernel
theorem dX9_rows_102 : decode cX9_rows 102 = .ok (.if_icmp .ge 14, 3) := by decide +kernel
theorem dX9_rows_105 : decode cX9_rows 105 = .ok (.aload_n 0, 1) := by decide +kernel
theorem dX9_rows_106 : decode cX9_rows 106 = .ok (.getfield 58, 3) := by decide +kernel
theorem dX9_rows_109 : decode cX9_rows 109 = .ok (.iload_n 2, 1) := by decide +kernel
theorem dX9_rows_110 : decode cX9_rows 110 = .ok (.iconst 4, 1) := by decide +kernel
theorem dX9_rows_111 : decode cX9_rows 111 = .ok (.isub, 1) := by decide +kernel
theorem dX9_rows_112 : decode cX9_rows 112 = .ok (.iaload, 1) := by decide +kernel
theorem dX9_rows_113 : decode cX9_rows 113 = .ok (.goto 5, 3) := by decide +kernel
theorem dX9_rows_116 : decode cX9_rows 116 = .ok (.bipush (-6), 2) := by decide +kernel
theorem dX9_rows_118 : decode cX9_rows 118 = .ok (.ireturn, 1) := by decide +kernel
theorem dX9_cup_0 : decode cX9_cup 0 = .ok (.aload_n 0, 1) := by decide +kernel
theorem dX9_cup_1 : decode cX9_cup 1 = .ok (.iload_n 1, 1) := by decide +kernel
theorem dX9_cup_2 : decode cX9_cup 2 = .ok (.invokevirtual 103, 3) := by decide +kernel
theorem dX9_cup_5 : decode cX9_cup 5 = .ok (.ifCond .ne 5, 3) := by decide +kernel
theorem dX9_cup_8 : decode cX9_cup 8 = .ok (.iconst (-1), 1) := by decide +kernel
theorem dX9_cup_9 : decode cX9_cup 9 = .ok (.ireturn, 1) := by decide +kernel
theorem dX9_cup_10 : decode cX9_cup 10 = .ok (.iload_n 2, 1) := by decide +kernel
theorem dX9_cup_11 : decode cX9_cup 11 = .ok (.i2l, 1) := by decide +kernel
theorem dX9_cup_12 : decode cX9_cup 12 = .ok (.lconst 0, 1) := by decide +kernel
theorem dX9_cup_13 : decode cX9_cup 13 = .ok (.ldc2_w 215, 3) := by decide +kernel
theorem dX9_cup_16 : decode cX9_cup 16 = .ok (.invokestatic 92, 3) := by decide +kernel
theorem dX9_cup_19 : decode cX9_cup 19 = .ok (.ifCond .ne 6, 3) := by decide +kernel
theorem dX9_cup_22 : decode cX9_cup 22 = .ok (.bipush (-2), 2) := by decide +kernel
theorem dX9_cup_24 : decode cX9_cup 24 = .ok (.ireturn, 1) := by decide +kernel
theorem dX9_cup_25 : decode cX9_cup 25 = .ok (.aload_n 0, 1) := by decide +kernel
theorem dX9_cup_26 : decode cX9_cup 26 = .ok (.iload_n 2, 1) := by decide +kernel
theorem dX9_cup_27 : decode cX9_cup 27 = .ok (.invokevirtual 217, 3) := by decide +kernel
theorem dX9_cup_30 : decode cX9_cup 30 = .ok (.aload_n 0, 1) := by decide +kernel
theorem dX9_cup_31 : decode cX9_cup 31 = .ok (.getfield 61, 3) := by decide +kernel
theorem dX9_cup_34 : decode cX9_cup 34 = .ok (.iload_n 1, 1) := by decide +kernel
theorem dX9_cup_35 : decode cX9_cup 35 = .ok (.iaload, 1) := by decide +kernel
theorem dX9_cup_36 : decode cX9_cup 36 = .ok (.ireturn, 1) := by decide +kernel
theorem dX9_mostLeft_0 : decode cX9_mostLeft 0 = .ok (.iconst 0, 1) := by decide +kernel
theorem dX9_mostLeft_1 : decode cX9_mostLeft 1 = .ok (.istore_n 2, 1) := by decide +kernel
theorem dX9_mostLeft_2 : decode cX9_mostLeft 2 = .ok (.iconst 0, 1) := by decide +kernel
theorem dX9_mostLeft_3 : decode cX9_mostLeft 3 = .ok (.istore_n 3, 1) := by decide +kernel
theorem dX9_mostLeft_4 : decode cX9_mostLeft 4 = .ok (.iload_n 3, 1) := by decide +kernel
theorem dX9_mostLeft_5 : decode cX9_mostLeft 5 = .ok (.bipush 10, 2) := by decide +kernel
theorem dX9_mostLeft_7 : decode cX9_mostLeft 7 = .ok (.if_icmp .ge 40, 3) := by decide +kernel
theorem dX9_mostLeft_10 : decode cX9_mostLeft 10 = .ok (.aload_n 0, 1) := by decide +kernel
theorem dX9_mostLeft_11 : decode cX9_mostLeft 11 = .ok (.getfield 64, 3) := by decide +kernel
theorem dX9_mostLeft_14 : decode cX9_mostLeft 14 = .ok (.bipush 10, 2) := by decide +kernel
theorem dX9_mostLeft_16 : decode cX9_mostLeft 16 = .ok (.iload_n 1, 1) := by decide +kernel
theorem dX9_mostLeft_17 : decode cX9_mostLeft 17 = .ok (.imul, 1) := by decide +kernel
theorem dX9_mostLeft_18 : decode cX9_mostLeft 18 = .ok (.iload_n 3, 1) := by decide +kernel
theorem dX9_mostLeft_19 : decode cX9_mostLeft 19 = .ok (.iadd, 1) := by decide +kernel
theorem dX9_mostLeft_20 : decode cX9_mostLeft 20 = .ok (.iaload, 1) := by decide +kernel
theorem dX9_mostLeft_21 : decode cX9_mostLeft 21 = .ok (.iload_n 2, 1) := by decide +kernel
theorem dX9_mostLeft_22 : decode cX9_mostLeft 22 = .ok (.if_icmp .le 17, 3) := by decide +kernel
theorem dX9_mostLeft_25 : decode cX9_mostLeft 25 = .ok (.aload_n 0, 1) := by decide +kernel
theorem dX9_mostLeft_26 : decode cX9_mostLeft 26 = .ok (.getfield 64, 3) := by decide +kernel
theorem dX9_mostLeft_29 : decode cX9_mostLeft 29 = .ok (.bipush 10, 2) := by decide +kernel
theorem dX9_mostLeft_31 : decode cX9_mostLeft 31 = .ok (.iload_n 1, 1) := by decide +kernel
theorem dX9_mostLeft_32 : decode cX9_mostLeft 32 = .ok (.imul, 1) := by decide +kernel
theorem dX9_mostLeft_33 : decode cX9_mostLeft 33 = .ok (.iload_n 3, 1) := by decide +kernel
theorem dX9_mostLeft_34 : decode cX9_mostLeft 34 = .ok (.iadd, 1) := by decide +kernel
theorem dX9_mostLeft_35 : decode cX9_mostLeft 35 = .ok (.iaload, 1) := by decide +kernel
theorem dX9_mostLeft_36 : decode cX9_mostLeft 36 = .ok (.goto 4, 3) := by decide +kernel
theorem dX9_mostLeft_39 : decode cX9_mostLeft 39 = .ok (.iload_n 2, 1) := by decide +kernel
theorem dX9_mostLeft_40 : decode cX9_mostLeft 40 = .ok (.istore_n 2, 1) := by decide +kernel
theorem dX9_mostLeft_41 : decode cX9_mostLeft 41 = .ok (.iinc 3 1, 3) := by decide +kernel
theorem dX9_mostLeft_44 : decode cX9_mostLeft 44 = .ok (.goto (-40), 3) := by decide +kernel
theorem dX9_mostLeft_47 : decode cX9_mostLeft 47 = .ok (.iload_n 2, 1) := by decide +kernel
theorem dX9_mostLeft_48 : decode cX9_mostLeft 48 = .ok (.ireturn, 1) := by decide +kernel
theorem dX9_look_0 : decode cX9_look 0 = .ok (.iload_n 1, 1) := by decide +kernel
theorem dX9_look_1 : decode cX9_look 1 = .ok (.i2l, 1) := by decide +kernel
theorem dX9_look_2 : decode cX9_look 2 = .ok (.lconst 0, 1) := by decide +kernel
theorem dX9_look_3 : decode cX9_look 3 = .ok (.ldc2_w 215, 3) := by decide +kernel
theorem dX9_look_6 : decode cX9_look 6 = .ok (.invokestatic 92, 3) := by decide +kernel
theorem dX9_look_9 : decode cX9_look 9 = .ok (.ifCond .eq 13, 3) := by decide +kernel
theorem dX9_look_12 : decode cX9_look 12 = .ok (.iload_n 2, 1) := by decide +kernel
theorem dX9_look_13 : decode cX9_look 13 = .ok (.i2l, 1) := by decide +kernel
theorem dX9_look_14 : decode cX9_look 14 = .ok (.lconst 0, 1) := by decide +kernel
theorem dX9_look_15 : decode cX9_look 15 = .ok (.lconst 1, 1) := by decide +kernel
theorem dX9_look_16 : decode cX9_look 16 = .ok (.invokestatic 92, 3) := by decide +kernel
theorem dX9_look_19 : decode cX9_look 19 = .ok (.ifCond .ne 6, 3) := by decide +kernel
theorem dX9_look_22 : decode cX9_look 22 = .ok (.bipush (-2), 2) := by decide +kernel
theorem dX9_look_24 : decode cX9_look 24 = .ok (.ireturn, 1) := by decide +kernel
theorem dX9_look_25 : decode cX9_look 25 = .ok (.aload_n 0, 1) := by decide +kernel
theorem dX9_look_26 : decode cX9_look 26 = .ok (.iload_n 1, 1) := by decide +kernel
theorem dX9_look_27 : decode cX9_look 27 = .ok (.invokevirtual 217, 3) := by decide +kernel
theorem dX9_look_30 : decode cX9_look 30 = .ok (.bipush (-6), 2) := by decide +kernel
theorem dX9_look_32 : decode cX9_look 32 = .ok (.istore_n 3, 1) := by decide +kernel
theorem dX9_look_33 : decode cX9_look 33 = .ok (.iconst 0, 1) := by decide +kernel
theorem dX9_look_34 : decode cX9_look 34 = .ok (.istore 4, 2) := by decide +kernel
theorem dX9_look_36 : decode cX9_look 36 = .ok (.iload 4, 2) := by decide +kernel
theorem dX9_look_38 : decode cX9_look 38 = .ok (.aload_n 0, 1) := by decide +kernel
theorem dX9_look_39 : decode cX9_look 39 = .ok (.getfield 84, 3) := by decide +kernel
theorem dX9_look_42 : decode cX9_look 42 = .ok (.if_icmp .ge 63, 3) := by decide +kernel
theorem dX9_look_45 : decode cX9_look 45 = .ok (.aload_n 0, 1) := by decide +kernel
theorem dX9_look_46 : decode cX9_look 46 = .ok (.getfield 187, 3) := by decide +kernel
theorem dX9_look_49 : decode cX9_look 49 = .ok (.ifCond .le 56, 3) := by decide +kernel
theorem dX9_look_52 : decode cX9_look 52 = .ok (.aload_n 0, 1) := by decide +kernel
theorem dX9_look_53 : decode cX9_look 53 = .ok (.getfield 16, 3) := by decide +kernel
theorem dX9_look_56 : decode cX9_look 56 = .ok (.iload 4, 2) := by decide +kernel
theorem dX9_look_58 : decode cX9_look 58 = .ok (.iaload, 1) := by decide +kernel
theorem dX9_look_59 : decode cX9_look 59 = .ok (.ifCond .ge 7, 3) := by decide +kernel
theorem dX9_look_62 : decode cX9_look 62 = .ok (.iconst 1, 1) := by decide +kernel
theorem dX9_look_63 : decode cX9_look 63 = .ok (.goto 4, 3) := by decide +kernel
theorem dX9_look_66 : decode cX9_look 66 = .ok (.iconst 0, 1) := by decide +kernel
theorem dX9_look_67 : decode cX9_look 67 = .ok (.istore 5, 2) := by decide +kernel
theorem dX9_look_69 : decode cX9_look 69 = .ok (.iload 5, 2) := by decide +kernel
theorem dX9_look_71 : decode cX9_look 71 = .ok (.ifCond .eq 26, 3) := by decide +kernel
theorem dX9_look_74 : decode cX9_look 74 = .ok (.iload_n 3, 1) := by decide +kernel
theorem dX9_look_75 : decode cX9_look 75 = .ok (.ifCond .lt 17, 3) := by decide +kernel
theorem dX9_look_78 : decode cX9_look 78 = .ok (.aload_n 0, 1) := by decide +kernel
theorem dX9_look_79 : decode cX9_look 79 = .ok (.iload 4, 2) := by decide +kernel
theorem dX9_look_81 : decode cX9_look 81 = .ok (.invokevirtual 220, 3) := by decide +kernel
theorem dX9_look_84 : decode cX9_look 84 = .ok (.aload_n 0, 1) := by decide +kernel
theorem dX9_look_85 : decode cX9_look 85 = .ok (.iload_n 3, 1) := by decide +kernel
theorem dX9_look_86 : decode cX9_look 86 = .ok (.invokevirtual 220, 3) := by decide +kernel
theorem dX9_look_89 : decode cX9_look 89 = .ok (.if_icmp .ge 8, 3) := by decide +kernel
theorem dX9_look_92 : decode cX9_look 92 = .ok (.iload 4, 2) := by decide +kernel
theorem dX9_look_94 : decode cX9_look 94 = .ok (.goto 4, 3) := by decide +kernel
theorem dX9_look_97 : decode cX9_look 97 = .ok (.iload_n 3, 1) := by decide +kernel
theorem dX9_look_98 : decode cX9_look 98 = .ok (.istore_n 3, 1) := by decide +kernel
theorem dX9_look_99 : decode cX9_look 99 = .ok (.iinc 4 1, 3) := by decide +kernel
theorem dX9_look_102 : decode cX9_look 102 = .ok (.goto (-66), 3) := by decide +kernel
theorem dX9_look_105 : decode cX9_look 105 = .ok (.iload_n 3, 1) := by decide +kernel
theorem dX9_look_106 : decode cX9_look 106 = .ok (.ifCond .lt 7, 3) := by decide +kernel
theorem dX9_look_109 : decode cX9_look 109 = .ok (.iload_n 2, 1) := by decide +kernel
theorem dX9_look_110 : decode cX9_look 110 = .ok (.ifCond .ne 7, 3) := by decide +kernel
theorem dX9_look_113 : decode cX9_look 113 = .ok (.iload_n 3, 1) := by decide +kernel
theorem dX9_look_114 : decode cX9_look 114 = .ok (.goto 8, 3) := by decide +kernel
theorem dX9_look_117 : decode cX9_look 117 = .ok (.aload_n 0, 1) := by decide +kernel
theorem dX9_look_118 : decode cX9_look 118 = .ok (.iload_n 3, 1) := by decide +kernel
theorem dX9_look_119 : decode cX9_look 119 = .ok (.invokevirtual 220, 3) := by decide +kernel
theorem dX9_look_122 : decode cX9_look 122 = .ok (.ireturn, 1) := by decide +kernel
theorem dX9_lowest_0 : decode cX9_lowest 0 = .ok (.lload_n 2, 1) := by decide +kernel
theorem dX9_lowest_1 : decode cX9_lowest 1 = .ok (.lstore 5, 2) := by decide +kernel
theorem dX9_lowest_3 : decode cX9_lowest 3 = .ok (.lload_n 0, 1) := by decide +kernel
theorem dX9_lowest_4 : decode cX9_lowest 4 = .ok (.lstore 7, 2) := by decide +kernel
theorem dX9_lowest_6 : decode cX9_lowest 6 = .ok (.lload 7, 2) := by decide +kernel
theorem dX9_lowest_8 : decode cX9_lowest 8 = .ok (.lconst 0, 1) := by decide +kernel
theorem dX9_lowest_9 : decode cX9_lowest 9 = .ok (.lcmp, 1) := by decide +kernel
theorem dX9_lowest_10 : decode cX9_lowest 10 = .ok (.ifCond .eq 21, 3) := by decide +kernel
theorem dX9_lowest_13 : decode cX9_lowest 13 = .ok (.lload 5, 2) := by decide +kernel
theorem dX9_lowest_15 : decode cX9_lowest 15 = .ok (.lload 7, 2) := by decide +kernel
theorem dX9_lowest_17 : decode cX9_lowest 17 = .ok (.lrem, 1) := by decide +kernel
theorem dX9_lowest_18 : decode cX9_lowest 18 = .ok (.lstore 9, 2) := by decide +kernel
theorem dX9_lowest_20 : decode cX9_lowest 20 = .ok (.lload 7, 2) := by decide +kernel
theorem dX9_lowest_22 : decode cX9_lowest 22 = .ok (.lstore 5, 2) := by decide +kernel
theorem dX9_lowest_24 : decode cX9_lowest 24 = .ok (.lload 9, 2) := by decide +kernel
theorem dX9_lowest_26 : decode cX9_lowest 26 = .ok (.lstore 7, 2) := by decide +kernel
theorem dX9_lowest_28 : decode cX9_lowest 28 = .ok (.goto (-22), 3) := by decide +kernel
theorem dX9_lowest_31 : decode cX9_lowest 31 = .ok (.iload 4, 2) := by decide +kernel
theorem dX9_lowest_33 : decode cX9_lowest 33 = .ok (.ifCond .ne 10, 3) := by decide +kernel
theorem dX9_lowest_36 : decode cX9_lowest 36 = .ok (.lload_n 0, 1) := by decide +kernel
theorem dX9_lowest_37 : decode cX9_lowest 37 = .ok (.lload 5, 2) := by decide +kernel
theorem dX9_lowest_39 : decode cX9_lowest 39 = .ok (.ldiv, 1) := by decide +kernel
theorem dX9_lowest_40 : decode cX9_lowest 40 = .ok (.goto 7, 3) := by decide +kernel
theorem dX9_lowest_43 : decode cX9_lowest 43 = .ok (.lload_n 2, 1) := by decide +kernel
theorem dX9_lowest_44 : decode cX9_lowest 44 = .ok (.lload 5, 2) := by decide +kernel
theorem dX9_lowest_46 : decode cX9_lowest 46 = .ok (.ldiv, 1) := by decide +kernel
theorem dX9_lowest_47 : decode cX9_lowest 47 = .ok (.lreturn, 1) := by decide +kernel
theorem dX9_weightOf_0 : decode cX9_weightOf 0 = .ok (.aload_n 0, 1) := by decide +kernel
theorem dX9_weightOf_1 : decode cX9_weightOf 1 = .ok (.invokevirtual 175, 3) := by decide +kernel
theorem dX9_weightOf_4 : decode cX9_weightOf 4 = .ok (.aload_n 0, 1) := by decide +kernel
theorem dX9_weightOf_5 : decode cX9_weightOf 5 = .ok (.bipush (-6), 2) := by decide +kernel
theorem dX9_weightOf_7 : decode cX9_weightOf 7 = .ok (.putfield 127, 3) := by decide +kernel
theorem dX9_weightOf_10 : decode cX9_weightOf 10 = .ok (.lconst 1, 1) := by decide +kernel
theorem dX9_weightOf_11 : decode cX9_weightOf 11 = .ok (.lstore_n 2, 1) := by decide +kernel
theorem dX9_weightOf_12 : decode cX9_weightOf 12 = .ok (.iconst 0, 1) := by decide +kernel
theorem dX9_weightOf_13 : decode cX9_weightOf 13 = .ok (.istore 4, 2) := by decide +kernel
theorem dX9_weightOf_15 : decode cX9_weightOf 15 = .ok (.iload 4, 2) := by decide +kernel
theorem dX9_weightOf_17 : decode cX9_weightOf 17 = .ok (.iload_n 1, 1) := by decide +kernel
theorem dX9_weightOf_18 : decode cX9_weightOf 18 = .ok (.if_icmp .ge 93, 3) := by decide +kernel
theorem dX9_weightOf_21 : decode cX9_weightOf 21 = .ok (.lload_n 2, 1) := by decide +kernel
theorem dX9_weightOf_22 : decode cX9_weightOf 22 = .ok (.aload_n 0, 1) := by decide +kernel
theorem dX9_weightOf_23 : decode cX9_weightOf 23 = .ok (.aload_n 0, 1) := by decide +kernel
theorem dX9_weightOf_24 : decode cX9_weightOf 24 = .ok (.getfield 55, 3) := by decide +kernel
theorem dX9_weightOf_27 : decode cX9_weightOf 27 = .ok (.iload 4, 2) := by decide +kernel
theorem dX9_weightOf_29 : decode cX9_weightOf 29 = .ok (.iaload, 1) := by decide +kernel
theorem dX9_weightOf_30 : decode cX9_weightOf 30 = .ok (.invokevirtual 113, 3) := by decide +kernel
theorem dX9_weightOf_33 : decode cX9_weightOf 33 = .ok (.ifCond .eq 19, 3) := by decide +kernel
theorem dX9_weightOf_36 : decode cX9_weightOf 36 = .ok (.aload_n 0, 1) := by decide +kernel
theorem dX9_weightOf_37 : decode cX9_weightOf 37 = .ok (.getfield 28, 3) := by decide +kernel
theorem dX9_weightOf_40 : decode cX9_weightOf 40 = .ok (.aload_n 0, 1) := by decide +kernel
theorem dX9_weightOf_41 : decode cX9_weightOf 41 = .ok (.getfield 55, 3) := by decide +kernel
theorem dX9_weightOf_44 : decode cX9_weightOf 44 = .ok (.iload 4, 2) := by decide +kernel
theorem dX9_weightOf_46 : decode cX9_weightOf 46 = .ok (.iaload, 1) := by decide +kernel
theorem dX9_weightOf_47 : decode cX9_weightOf 47 = .ok (.iaload, 1) := by decide +kernel
theorem dX9_weightOf_48 : decode cX9_weightOf 48 = .ok (.i2l, 1) := by decide +kernel
theorem dX9_weightOf_49 : decode cX9_weightOf 49 = .ok (.goto 4, 3) := by decide +kernel
theorem dX9_weightOf_52 : decode cX9_weightOf 52 = .ok (.lconst 0, 1) := by decide +kernel
theorem dX9_weightOf_53 : decode cX9_weightOf 53 = .ok (.lmul, 1) := by decide +kernel
theorem dX9_weightOf_54 : decode cX9_weightOf 54 = .ok (.lstore_n 2, 1) := by decide +kernel
theorem dX9_weightOf_55 : decode cX9_weightOf 55 = .ok (.aload_n 0, 1) := by decide +kernel
theorem dX9_weightOf_56 : decode cX9_weightOf 56 = .ok (.aload_n 0, 1) := by decide +kernel
theorem dX9_weightOf_57 : decode cX9_weightOf 57 = .ok (.getfield 55, 3) := by decide +kernel
theorem dX9_weightOf_60 : decode cX9_weightOf 60 = .ok (.iload 4, 2) := by decide +kernel
theorem dX9_weightOf_62 : decode cX9_weightOf 62 = .ok (.iaload, 1) := by decide +kernel
theorem dX9_weightOf_63 : decode cX9_weightOf 63 = .ok (.invokevirtual 113, 3) := by decide +kernel
theorem dX9_weightOf_66 : decode cX9_weightOf 66 = .ok (.ifCond .eq 17, 3) := by decide +kernel
theorem dX9_weightOf_69 : decode cX9_weightOf 69 = .ok (.aload_n 0, 1) := by decide +kernel
theorem dX9_weightOf_70 : decode cX9_weightOf 70 = .ok (.aload_n 0, 1) := by decide +kernel
theorem dX9_weightOf_71 : decode cX9_weightOf 71 = .ok (.getfield 55, 3) := by decide +kernel
theorem dX9_weightOf_74 : decode cX9_weightOf 74 = .ok (.iload 4, 2) := by decide +kernel
theorem dX9_weightOf_76 : decode cX9_weightOf 76 = .ok (.iaload, 1) := by decide +kernel
theorem dX9_weightOf_77 : decode cX9_weightOf 77 = .ok (.invokevirtual 139, 3) := by decide +kernel
theorem dX9_weightOf_80 : decode cX9_weightOf 80 = .ok (.goto 5, 3) := by decide +kernel
theorem dX9_weightOf_83 : decode cX9_weightOf 83 = .ok (.bipush (-6), 2) := by decide +kernel
theorem dX9_weightOf_85 : decode cX9_weightOf 85 = .ok (.istore 5, 2) := by decide +kernel
theorem dX9_weightOf_87 : decode cX9_weightOf 87 = .ok (.iload 5, 2) := by decide +kernel
theorem dX9_weightOf_89 : decode cX9_weightOf 89 = .ok (.ifCond .lt 16, 3) := by decide +kernel
theorem dX9_weightOf_92 : decode cX9_weightOf 92 = .ok (.aload_n 0, 1) := by decide +kernel
theorem dX9_weightOf_93 : decode cX9_weightOf 93 = .ok (.aload_n 0, 1) := by decide +kernel
theorem dX9_weightOf_94 : decode cX9_weightOf 94 = .ok (.getfield 55, 3) := by decide +kernel
theorem dX9_weightOf_97 : decode cX9_weightOf 97 = .ok (.iload 4, 2) := by decide +kernel
theorem dX9_weightOf_99 : decode cX9_weightOf 99 = .ok (.iaload, 1) := by decide +kernel
theorem dX9_weightOf_100 : decode cX9_weightOf 100 = .ok (.iload 5, 2) := by decide +kernel
theorem dX9_weightOf_102 : decode cX9_weightOf 102 = .ok (.invokevirtual 151, 3) := by decide +kernel
theorem dX9_weightOf_105 : decode cX9_weightOf 105 = .ok (.iinc 4 1, 3) := by decide +kernel
theorem dX9_weightOf_108 : decode cX9_weightOf 108 = .ok (.goto (-93), 3) := by decide +kernel
theorem dX9_weightOf_111 : decode cX9_weightOf 111 = .ok (.lload_n 2, 1) := by decide +kernel
theorem dX9_weightOf_112 : decode cX9_weightOf 112 = .ok (.lreturn, 1) := by decide +kernel
theorem dX9_belief_0 : decode cX9_belief 0 = .ok (.iload_n 2, 1) := by decide +kernel
theorem dX9_belief_1 : decode cX9_belief 1 = .ok (.iconst (-1), 1) := by decide +kernel
theorem dX9_belief_2 : decode cX9_belief 2 = .ok (.if_icmp .eq 15, 3) := by decide +kernel
theorem dX9_belief_5 : decode cX9_belief 5 = .ok (.aload_n 0, 1) := by decide +kernel
theorem dX9_belief_6 : decode cX9_belief 6 = .ok (.iload_n 2, 1) := by decide +kernel
theorem dX9_belief_7 : decode cX9_belief 7 = .ok (.invokevirtual 113, 3) := by decide +kernel
theorem dX9_belief_10 : decode cX9_belief 10 = .ok (.ifCond .ne 7, 3) := by decide +kernel
theorem dX9_belief_13 : decode cX9_belief 13 = .ok (.ldc2_w 223, 3) := by decide +kernel
theorem dX9_belief_16 : decode cX9_belief 16 = .ok (.lreturn, 1) := by decide +kernel
theorem dX9_belief_17 : decode cX9_belief 17 = .ok (.iload_n 1, 1) := by decide +kernel
theorem dX9_belief_18 : decode cX9_belief 18 = .ok (.i2l, 1) := by decide +kernel
theorem dX9_belief_19 : decode cX9_belief 19 = .ok (.lconst 0, 1) := by decide +kernel
theorem dX9_belief_20 : decode cX9_belief 20 = .ok (.ldc2_w 215, 3) := by decide +kernel
theorem dX9_belief_23 : decode cX9_belief 23 = .ok (.invokestatic 92, 3) := by decide +kernel
theorem dX9_belief_26 : decode cX9_belief 26 = .ok (.ifCond .eq 13, 3) := by decide +kernel
theorem dX9_belief_29 : decode cX9_belief 29 = .ok (.iload_n 3, 1) := by decide +kernel
theorem dX9_belief_30 : decode cX9_belief 30 = .ok (.i2l, 1) := by decide +kernel
theorem dX9_belief_31 : decode cX9_belief 31 = .ok (.lconst 0, 1) := by decide +kernel
theorem dX9_belief_32 : decode cX9_belief 32 = .ok (.lconst 1, 1) := by decide +kernel
theorem dX9_belief_33 : decode cX9_belief 33 = .ok (.invokestatic 92, 3) := by decide +kernel
theorem dX9_belief_36 : decode cX9_belief 36 = .ok (.ifCond .ne 7, 3) := by decide +kernel
theorem dX9_belief_39 : decode cX9_belief 39 = .ok (.ldc2_w 225, 3) := by decide +kernel
theorem dX9_belief_42 : decode cX9_belief 42 = .ok (.lreturn, 1) := by decide +kernel
theorem dX9_belief_43 : decode cX9_belief 43 = .ok (.aload_n 0, 1) := by decide +kernel
theorem dX9_belief_44 : decode cX9_belief 44 = .ok (.getfield 98, 3) := by decide +kernel
theorem dX9_belief_47 : decode cX9_belief 47 = .ok (.ifCond .ne 7, 3) := by decide +kernel
theorem dX9_belief_50 : decode cX9_belief 50 = .ok (.ldc2_w 227, 3) := by decide +kernel
theorem dX9_belief_53 : decode cX9_belief 53 = .ok (.lreturn, 1) := by decide +kernel
theorem dX9_belief_54 : decode cX9_belief 54 = .ok (.aload_n 0, 1) := by decide +kernel
theorem dX9_belief_55 : decode cX9_belief 55 = .ok (.invokevirtual 169, 3) := by decide +kernel
theorem dX9_belief_58 : decode cX9_belief 58 = .ok (.lconst 0, 1) := by decide +kernel
theorem dX9_belief_59 : decode cX9_belief 59 = .ok (.lstore 4, 2) := by decide +kernel
theorem dX9_belief_61 : decode cX9_belief 61 = .ok (.lconst 0, 1) := by decide +kernel
theorem dX9_belief_62 : decode cX9_belief 62 = .ok (.lstore 6, 2) := by decide +kernel
theorem dX9_belief_64 : decode cX9_belief 64 = .ok (.iconst 0, 1) := by decide +kernel
theorem dX9_belief_65 : decode cX9_belief 65 = .ok (.istore 8, 2) := by decide +kernel
theorem dX9_belief_67 : decode cX9_belief 67 = .ok (.iload 8, 2) := by decide +kernel
theorem dX9_belief_69 : decode cX9_belief 69 = .ok (.iconst 4, 1) := by decide +kernel
theorem dX9_belief_70 : decode cX9_belief 70 = .ok (.iload_n 1, 1) := by decide +kernel
theorem dX9_belief_71 : decode cX9_belief 71 = .ok (.invokestatic 199, 3) := by decide +kernel
theorem dX9_belief_74 : decode cX9_belief 74 = .ok (.if_icmp .ge 79, 3) := by decide +kernel
theorem dX9_belief_77 : decode cX9_belief 77 = .ok (.aload_n 0, 1) := by decide +kernel
theorem dX9_belief_78 : decode cX9_belief 78 = .ok (.iload 8, 2) := by decide +kernel
theorem dX9_belief_80 : decode cX9_belief 80 = .ok (.iload_n 1, 1) := by decide +kernel
theorem dX9_belief_81 : decode cX9_belief 81 = .ok (.invokevirtual 202, 3) := by decide +kernel
theorem dX9_belief_84 : decode cX9_belief 84 = .ok (.aload_n 0, 1) := by decide +kernel
theorem dX9_belief_85 : decode cX9_belief 85 = .ok (.iload_n 1, 1) := by decide +kernel
theorem dX9_belief_86 : decode cX9_belief 86 = .ok (.invokevirtual 229, 3) := by decide +kernel
theorem dX9_belief_89 : decode cX9_belief 89 = .ok (.lstore 9, 2) := by decide +kernel
theorem dX9_belief_91 : decode cX9_belief 91 = .ok (.iload_n 2, 1) := by decide +kernel
theorem dX9_belief_92 : decode cX9_belief 92 = .ok (.iconst (-1), 1) := by decide +kernel
theorem dX9_belief_93 : decode cX9_belief 93 = .ok (.if_icmp .eq 17, 3) := by decide +kernel
theorem dX9_belief_96 : decode cX9_belief 96 = .ok (.iload_n 1, 1) := by decide +kernel
theorem dX9_belief_97 : decode cX9_belief 97 = .ok (.ifCond .le 17, 3) := by decide +kernel
theorem dX9_belief_100 : decode cX9_belief 100 = .ok (.aload_n 0, 1) := by decide +kernel
theorem dX9_belief_101 : decode cX9_belief 101 = .ok (.getfield 55, 3) := by decide +kernel
theorem dX9_belief_104 : decode cX9_belief 104 = .ok (.iconst 0, 1) := by decide +kernel
theorem dX9_belief_105 : decode cX9_belief 105 = .ok (.iaload, 1) := by decide +kernel
theorem dX9_belief_106 : decode cX9_belief 106 = .ok (.iload_n 2, 1) := by decide +kernel
theorem dX9_belief_107 : decode cX9_belief 107 = .ok (.if_icmp .ne 7, 3) := by decide +kernel
theorem dX9_belief_110 : decode cX9_belief 110 = .ok (.iconst 1, 1) := by decide +kernel
theorem dX9_belief_111 : decode cX9_belief 111 = .ok (.goto 4, 3) := by decide +kernel
theorem dX9_belief_114 : decode cX9_belief 114 = .ok (.iconst 0, 1) := by decide +kernel
theorem dX9_belief_115 : decode cX9_belief 115 = .ok (.istore 11, 2) := by decide +kernel
theorem dX9_belief_117 : decode cX9_belief 117 = .ok (.lload 6, 2) := by decide +kernel
theorem dX9_belief_119 : decode cX9_belief 119 = .ok (.lload 9, 2) := by decide +kernel
theorem dX9_belief_121 : decode cX9_belief 121 = .ok (.ladd, 1) := by decide +kernel
theorem dX9_belief_122 : decode cX9_belief 122 = .ok (.lstore 6, 2) := by decide +kernel
theorem dX9_belief_124 : decode cX9_belief 124 = .ok (.lload 4, 2) := by decide +kernel
theorem dX9_belief_126 : decode cX9_belief 126 = .ok (.iload 11, 2) := by decide +kernel
theorem dX9_belief_128 : decode cX9_belief 128 = .ok (.ifCond .eq 15, 3) := by decide +kernel
theorem dX9_belief_131 : decode cX9_belief 131 = .ok (.aload_n 0, 1) := by decide +kernel
theorem dX9_belief_132 : decode cX9_belief 132 = .ok (.invokevirtual 208, 3) := by decide +kernel
theorem dX9_belief_135 : decode cX9_belief 135 = .ok (.ifCond .eq 8, 3) := by decide +kernel
theorem dX9_belief_138 : decode cX9_belief 138 = .ok (.lload 9, 2) := by decide +kernel
theorem dX9_belief_140 : decode cX9_belief 140 = .ok (.goto 4, 3) := by decide +kernel
theorem dX9_belief_143 : decode cX9_belief 143 = .ok (.lconst 0, 1) := by decide +kernel
theorem dX9_belief_144 : decode cX9_belief 144 = .ok (.ladd, 1) := by decide +kernel
theorem dX9_belief_145 : decode cX9_belief 145 = .ok (.lstore 4, 2) := by decide +kernel
theorem dX9_belief_147 : decode cX9_belief 147 = .ok (.iinc 8 1, 3) := by decide +kernel
theorem dX9_belief_150 : decode cX9_belief 150 = .ok (.goto (-83), 3) := by decide +kernel
theorem dX9_belief_153 : decode cX9_belief 153 = .ok (.aload_n 0, 1) := by decide +kernel
theorem dX9_belief_154 : decode cX9_belief 154 = .ok (.invokevirtual 175, 3) := by decide +kernel
theorem dX9_belief_157 : decode cX9_belief 157 = .ok (.lload 4, 2) := by decide +kernel
theorem dX9_belief_159 : decode cX9_belief 159 = .ok (.lload 6, 2) := by decide +kernel
theorem dX9_belief_161 : decode cX9_belief 161 = .ok (.iload_n 3, 1) := by decide +kernel
theorem dX9_belief_162 : decode cX9_belief 162 = .ok (.invokestatic 233, 3) := by decide +kernel
theorem dX9_belief_165 : decode cX9_belief 165 = .ok (.lreturn, 1) := by decide +kernel
theorem dX9_tableNow_0 : decode cX9_tableNow 0 = .ok (.iconst 0, 1) := by decide +kernel
theorem dX9_tableNow_1 : decode cX9_tableNow 1 = .ok (.istore_n 1, 1) := by decide +kernel
theorem dX9_tableNow_2 : decode cX9_tableNow 2 = .ok (.iconst 0, 1) := by decide +kernel
theorem dX9_tableNow_3 : decode cX9_tableNow 3 = .ok (.istore_n 2, 1) := by decide +kernel
theorem dX9_tableNow_4 : decode cX9_tableNow 4 = .ok (.iload_n 2, 1) := by decide +kernel
theorem dX9_tableNow_5 : decode cX9_tableNow 5 = .ok (.aload_n 0, 1) := by decide +kernel
theorem dX9_tableNow_6 : decode cX9_tableNow 6 = .ok (.getfield 84, 3) := by decide +kernel
theorem dX9_tableNow_9 : decode cX9_tableNow 9 = .ok (.if_icmp .ge 25, 3) := by decide +kernel
theorem dX9_tableNow_12 : decode cX9_tableNow 12 = .ok (.bipush 10, 2) := by decide +kernel
theorem dX9_tableNow_14 : decode cX9_tableNow 14 = .ok (.iload_n 1, 1) := by decide +kernel
theorem dX9_tableNow_15 : decode cX9_tableNow 15 = .ok (.imul, 1) := by decide +kernel
theorem dX9_tableNow_16 : decode cX9_tableNow 16 = .ok (.aload_n 0, 1) := by decide +kernel
theorem dX9_tableNow_17 : decode cX9_tableNow 17 = .ok (.getfield 7, 3) := by decide +kernel
theorem dX9_tableNow_20 : decode cX9_tableNow 20 = .ok (.iconst 3, 1) := by decide +kernel
theorem dX9_tableNow_21 : decode cX9_tableNow 21 = .ok (.iload_n 2, 1) := by decide +kernel
theorem dX9_tableNow_22 : decode cX9_tableNow 22 = .ok (.invokestatic 88, 3) := by decide +kernel
theorem dX9_tableNow_25 : decode cX9_tableNow 25 = .ok (.iaload, 1) := by decide +kernel
theorem dX9_tableNow_26 : decode cX9_tableNow 26 = .ok (.iadd, 1) := by decide +kernel
theorem dX9_tableNow_27 : decode cX9_tableNow 27 = .ok (.istore_n 1, 1) := by decide +kernel
theorem dX9_tableNow_28 : decode cX9_tableNow 28 = .ok (.iinc 2 1, 3) := by decide +kernel
theorem dX9_tableNow_31 : decode cX9_tableNow 31 = .ok (.goto (-27), 3) := by decide +kernel
theorem dX9_tableNow_34 : decode cX9_tableNow 34 = .ok (.iload_n 1, 1) := by decide +kernel
theorem dX9_tableNow_35 : decode cX9_tableNow 35 = .ok (.ireturn, 1) := by decide +kernel
theorem dX9_findAlone_0 : decode cX9_findAlone 0 = .ok (.iconst 0, 1) := by decide +kernel
theorem dX9_findAlone_1 : decode cX9_findAlone 1 = .ok (.istore_n 1, 1) := by decide +kernel
theorem dX9_findAlone_2 : decode cX9_findAlone 2 = .ok (.iload_n 1, 1) := by decide +kernel
theorem dX9_findAlone_3 : decode cX9_findAlone 3 = .ok (.iconst 4, 1) := by decide +kernel
theorem dX9_findAlone_4 : decode cX9_findAlone 4 = .ok (.if_icmp .ge 58, 3) := by decide +kernel
theorem dX9_findAlone_7 : decode cX9_findAlone 7 = .ok (.aload_n 0, 1) := by decide +kernel
theorem dX9_findAlone_8 : decode cX9_findAlone 8 = .ok (.invokevirtual 175, 3) := by decide +kernel
theorem dX9_findAlone_11 : decode cX9_findAlone 11 = .ok (.aload_n 0, 1) := by decide +kernel
theorem dX9_findAlone_12 : decode cX9_findAlone 12 = .ok (.bipush (-6), 2) := by decide +kernel
theorem dX9_findAlone_14 : decode cX9_findAlone 14 = .ok (.putfield 127, 3) := by decide +kernel
theorem dX9_findAlone_17 : decode cX9_findAlone 17 = .ok (.aload_n 0, 1) := by decide +kernel
theorem dX9_findAlone_18 : decode cX9_findAlone 18 = .ok (.iload_n 1, 1) := by decide +kernel
theorem dX9_findAlone_19 : decode cX9_findAlone 19 = .ok (.invokevirtual 113, 3) := by decide +kernel
theorem dX9_findAlone_22 : decode cX9_findAlone 22 = .ok (.ifCond .eq 11, 3) := by decide +kernel
theorem dX9_findAlone_25 : decode cX9_findAlone 25 = .ok (.aload_n 0, 1) := by decide +kernel
theorem dX9_findAlone_26 : decode cX9_findAlone 26 = .ok (.iload_n 1, 1) := by decide +kernel
theorem dX9_findAlone_27 : decode cX9_findAlone 27 = .ok (.invokevirtual 139, 3) := by decide +kernel
theorem dX9_findAlone_30 : decode cX9_findAlone 30 = .ok (.goto 5, 3) := by decide +kernel
theorem dX9_findAlone_33 : decode cX9_findAlone 33 = .ok (.bipush (-6), 2) := by decide +kernel
theorem dX9_findAlone_35 : decode cX9_findAlone 35 = .ok (.istore_n 2, 1) := by decide +kernel
theorem dX9_findAlone_36 : decode cX9_findAlone 36 = .ok (.iload_n 2, 1) := by decide +kernel
theorem dX9_findAlone_37 : decode cX9_findAlone 37 = .ok (.ifCond .lt 9, 3) := by decide +kernel
theorem dX9_findAlone_40 : decode cX9_findAlone 40 = .ok (.aload_n 0, 1) := by decide +kernel
theorem dX9_findAlone_41 : decode cX9_findAlone 41 = .ok (.iload_n 1, 1) := by decide +kernel
theorem dX9_findAlone_42 : decode cX9_findAlone 42 = .ok (.iload_n 2, 1) := by decide +kernel
theorem dX9_findAlone_43 : decode cX9_findAlone 43 = .ok (.invokevirtual 151, 3) := by decide +kernel
theorem dX9_findAlone_46 : decode cX9_findAlone 46 = .ok (.aload_n 0, 1) := by decide +kernel
theorem dX9_findAlone_47 : decode cX9_findAlone 47 = .ok (.getfield 67, 3) := by decide +kernel
theorem dX9_findAlone_50 : decode cX9_findAlone 50 = .ok (.iload_n 1, 1) := by decide +kernel
theorem dX9_findAlone_51 : decode cX9_findAlone 51 = .ok (.aload_n 0, 1) := by decide +kernel
theorem dX9_findAlone_52 : decode cX9_findAlone 52 = .ok (.invokevirtual 237, 3) := by decide +kernel
theorem dX9_findAlone_55 : decode cX9_findAlone 55 = .ok (.iastore, 1) := by decide +kernel
theorem dX9_findAlone_56 : decode cX9_findAlone 56 = .ok (.iinc 1 1, 3) := by decide +kernel
theorem dX9_findAlone_59 : decode cX9_findAlone 59 = .ok (.goto (-57), 3) := by decide +kernel
theorem dX9_findAlone_62 : decode cX9_findAlone 62 = .ok (.aload_n 0, 1) := by decide +kernel
theorem dX9_findAlone_63 : decode cX9_findAlone 63 = .ok (.invokevirtual 175, 3) := by decide +kernel
theorem dX9_findAlone_66 : decode cX9_findAlone 66 = .ok (.return_, 1) := by decide +kernel
end
section
theorem dX9_alike_0 : decode cX9_alike 0 = .ok (.aload_n 0, 1) := by decide +kernel
theorem dX9_alike_1 : decode cX9_alike 1 = .ok (.invokevirtual 169, 3) := by decide +kernel
theorem dX9_alike_4 : decode cX9_alike 4 = .ok (.aload_n 0, 1) := by decide +kernel
theorem dX9_alike_5 : decode cX9_alike 5 = .ok (.invokevirtual 240, 3) := by decide +kernel
theorem dX9_alike_8 : decode cX9_alike 8 = .ok (.iconst 0, 1) := by decide +kernel
theorem dX9_alike_9 : decode cX9_alike 9 = .ok (.istore_n 2, 1) := by decide +kernel
theorem dX9_alike_10 : decode cX9_alike 10 = .ok (.iconst 0, 1) := by decide +kernel
theorem dX9_alike_11 : decode cX9_alike 11 = .ok (.istore_n 3, 1) := by decide +kernel
theorem dX9_alike_12 : decode cX9_alike 12 = .ok (.iload_n 3, 1) := by decide +kernel
theorem dX9_alike_13 : decode cX9_alike 13 = .ok (.iconst 4, 1) := by decide +kernel
theorem dX9_alike_14 : decode cX9_alike 14 = .ok (.if_icmp .ge 75, 3) := by decide +kernel
theorem dX9_alike_17 : decode cX9_alike 17 = .ok (.iload_n 3, 1) := by decide +kernel
theorem dX9_alike_18 : decode cX9_alike 18 = .ok (.iconst 1, 1) := by decide +kernel
theorem dX9_alike_19 : decode cX9_alike 19 = .ok (.iadd, 1) := by decide +kernel
theorem dX9_alike_20 : decode cX9_alike 20 = .ok (.istore 4, 2) := by decide +kernel
theorem dX9_alike_22 : decode cX9_alike 22 = .ok (.iload 4, 2) := by decide +kernel
theorem dX9_alike_24 : decode cX9_alike 24 = .ok (.iconst 4, 1) := by decide +kernel
theorem dX9_alike_25 : decode cX9_alike 25 = .ok (.if_icmp .ge 58, 3) := by decide +kernel
theorem dX9_alike_28 : decode cX9_alike 28 = .ok (.aload_n 0, 1) := by decide +kernel
theorem dX9_alike_29 : decode cX9_alike 29 = .ok (.iload_n 3, 1) := by decide +kernel
theorem dX9_alike_30 : decode cX9_alike 30 = .ok (.invokevirtual 113, 3) := by decide +kernel
theorem dX9_alike_33 : decode cX9_alike 33 = .ok (.ifCond .eq 44, 3) := by decide +kernel
theorem dX9_alike_36 : decode cX9_alike 36 = .ok (.aload_n 0, 1) := by decide +kernel
theorem dX9_alike_37 : decode cX9_alike 37 = .ok (.iload 4, 2) := by decide +kernel
theorem dX9_alike_39 : decode cX9_alike 39 = .ok (.invokevirtual 113, 3) := by decide +kernel
theorem dX9_alike_42 : decode cX9_alike 42 = .ok (.ifCond .eq 35, 3) := by decide +kernel
theorem dX9_alike_45 : decode cX9_alike 45 = .ok (.aload_n 0, 1) := by decide +kernel
theorem dX9_alike_46 : decode cX9_alike 46 = .ok (.getfield 67, 3) := by decide +kernel
theorem dX9_alike_49 : decode cX9_alike 49 = .ok (.iload_n 3, 1) := by decide +kernel
theorem dX9_alike_50 : decode cX9_alike 50 = .ok (.iaload, 1) := by decide +kernel
theorem dX9_alike_51 : decode cX9_alike 51 = .ok (.aload_n 0, 1) := by decide +kernel
theorem dX9_alike_52 : decode cX9_alike 52 = .ok (.getfield 67, 3) := by decide +kernel
theorem dX9_alike_55 : decode cX9_alike 55 = .ok (.iload 4, 2) := by decide +kernel
theorem dX9_alike_57 : decode cX9_alike 57 = .ok (.iaload, 1) := by decide +kernel
theorem dX9_alike_58 : decode cX9_alike 58 = .ok (.if_icmp .ne 19, 3) := by decide +kernel
theorem dX9_alike_61 : decode cX9_alike 61 = .ok (.iload_n 2, 1) := by decide +kernel
theorem dX9_alike_62 : decode cX9_alike 62 = .ok (.iload_n 1, 1) := by decide +kernel
theorem dX9_alike_63 : decode cX9_alike 63 = .ok (.if_icmp .ne 11, 3) := by decide +kernel
theorem dX9_alike_66 : decode cX9_alike 66 = .ok (.bipush 10, 2) := by decide +kernel
theorem dX9_alike_68 : decode cX9_alike 68 = .ok (.iload_n 3, 1) := by decide +kernel
theorem dX9_alike_69 : decode cX9_alike 69 = .ok (.imul, 1) := by decide +kernel
theorem dX9_alike_70 : decode cX9_alike 70 = .ok (.iload 4, 2) := by decide +kernel
theorem dX9_alike_72 : decode cX9_alike 72 = .ok (.iadd, 1) := by decide +kernel
theorem dX9_alike_73 : decode cX9_alike 73 = .ok (.ireturn, 1) := by decide +kernel
theorem dX9_alike_74 : decode cX9_alike 74 = .ok (.iinc 2 1, 3) := by decide +kernel
theorem dX9_alike_77 : decode cX9_alike 77 = .ok (.iinc 4 1, 3) := by decide +kernel
theorem dX9_alike_80 : decode cX9_alike 80 = .ok (.goto (-58), 3) := by decide +kernel
theorem dX9_alike_83 : decode cX9_alike 83 = .ok (.iinc 3 1, 3) := by decide +kernel
theorem dX9_alike_86 : decode cX9_alike 86 = .ok (.goto (-74), 3) := by decide +kernel
theorem dX9_alike_89 : decode cX9_alike 89 = .ok (.iload_n 1, 1) := by decide +kernel
theorem dX9_alike_90 : decode cX9_alike 90 = .ok (.iconst (-1), 1) := by decide +kernel
theorem dX9_alike_91 : decode cX9_alike 91 = .ok (.if_icmp .ne 7, 3) := by decide +kernel
theorem dX9_alike_94 : decode cX9_alike 94 = .ok (.iload_n 2, 1) := by decide +kernel
theorem dX9_alike_95 : decode cX9_alike 95 = .ok (.goto 5, 3) := by decide +kernel
theorem dX9_alike_98 : decode cX9_alike 98 = .ok (.bipush (-6), 2) := by decide +kernel
theorem dX9_alike_100 : decode cX9_alike 100 = .ok (.ireturn, 1) := by decide +kernel
theorem dX9_areApart_0 : decode cX9_areApart 0 = .ok (.aload_n 0, 1) := by decide +kernel
theorem dX9_areApart_1 : decode cX9_areApart 1 = .ok (.invokevirtual 240, 3) := by decide +kernel
theorem dX9_areApart_4 : decode cX9_areApart 4 = .ok (.iconst 1, 1) := by decide +kernel
theorem dX9_areApart_5 : decode cX9_areApart 5 = .ok (.istore_n 1, 1) := by decide +kernel
theorem dX9_areApart_6 : decode cX9_areApart 6 = .ok (.iconst 0, 1) := by decide +kernel
theorem dX9_areApart_7 : decode cX9_areApart 7 = .ok (.istore_n 2, 1) := by decide +kernel
theorem dX9_areApart_8 : decode cX9_areApart 8 = .ok (.iload_n 2, 1) := by decide +kernel
theorem dX9_areApart_9 : decode cX9_areApart 9 = .ok (.iconst 4, 1) := by decide +kernel
theorem dX9_areApart_10 : decode cX9_areApart 10 = .ok (.if_icmp .ge 65, 3) := by decide +kernel
theorem dX9_areApart_13 : decode cX9_areApart 13 = .ok (.iload_n 2, 1) := by decide +kernel
theorem dX9_areApart_14 : decode cX9_areApart 14 = .ok (.iconst 1, 1) := by decide +kernel
theorem dX9_areApart_15 : decode cX9_areApart 15 = .ok (.iadd, 1) := by decide +kernel
theorem dX9_areApart_16 : decode cX9_areApart 16 = .ok (.istore_n 3, 1) := by decide +kernel
theorem dX9_areApart_17 : decode cX9_areApart 17 = .ok (.iload_n 3, 1) := by decide +kernel
theorem dX9_areApart_18 : decode cX9_areApart 18 = .ok (.iconst 4, 1) := by decide +kernel
theorem dX9_areApart_19 : decode cX9_areApart 19 = .ok (.if_icmp .ge 50, 3) := by decide +kernel
theorem dX9_areApart_22 : decode cX9_areApart 22 = .ok (.iload_n 1, 1) := by decide +kernel
theorem dX9_areApart_23 : decode cX9_areApart 23 = .ok (.ifCond .eq 38, 3) := by decide +kernel
theorem dX9_areApart_26 : decode cX9_areApart 26 = .ok (.aload_n 0, 1) := by decide +kernel
theorem dX9_areApart_27 : decode cX9_areApart 27 = .ok (.iload_n 2, 1) := by decide +kernel
theorem dX9_areApart_28 : decode cX9_areApart 28 = .ok (.invokevirtual 113, 3) := by decide +kernel
theorem dX9_areApart_31 : decode cX9_areApart 31 = .ok (.ifCond .eq 26, 3) := by decide +kernel
theorem dX9_areApart_34 : decode cX9_areApart 34 = .ok (.aload_n 0, 1) := by decide +kernel
theorem dX9_areApart_35 : decode cX9_areApart 35 = .ok (.iload_n 3, 1) := by decide +kernel
theorem dX9_areApart_36 : decode cX9_areApart 36 = .ok (.invokevirtual 113, 3) := by decide +kernel
theorem dX9_areApart_39 : decode cX9_areApart 39 = .ok (.ifCond .eq 18, 3) := by decide +kernel
theorem dX9_areApart_42 : decode cX9_areApart 42 = .ok (.aload_n 0, 1) := by decide +kernel
theorem dX9_areApart_43 : decode cX9_areApart 43 = .ok (.getfield 67, 3) := by decide +kernel
theorem dX9_areApart_46 : decode cX9_areApart 46 = .ok (.iload_n 2, 1) := by decide +kernel
theorem dX9_areApart_47 : decode cX9_areApart 47 = .ok (.iaload, 1) := by decide +kernel
theorem dX9_areApart_48 : decode cX9_areApart 48 = .ok (.aload_n 0, 1) := by decide +kernel
theorem dX9_areApart_49 : decode cX9_areApart 49 = .ok (.getfield 67, 3) := by decide +kernel
theorem dX9_areApart_52 : decode cX9_areApart 52 = .ok (.iload_n 3, 1) := by decide +kernel
theorem dX9_areApart_53 : decode cX9_areApart 53 = .ok (.iaload, 1) := by decide +kernel
theorem dX9_areApart_54 : decode cX9_areApart 54 = .ok (.if_icmp .eq 7, 3) := by decide +kernel
theorem dX9_areApart_57 : decode cX9_areApart 57 = .ok (.iconst 1, 1) := by decide +kernel
theorem dX9_areApart_58 : decode cX9_areApart 58 = .ok (.goto 4, 3) := by decide +kernel
theorem dX9_areApart_61 : decode cX9_areApart 61 = .ok (.iconst 0, 1) := by decide +kernel
theorem dX9_areApart_62 : decode cX9_areApart 62 = .ok (.istore_n 1, 1) := by decide +kernel
theorem dX9_areApart_63 : decode cX9_areApart 63 = .ok (.iinc 3 1, 3) := by decide +kernel
theorem dX9_areApart_66 : decode cX9_areApart 66 = .ok (.goto (-49), 3) := by decide +kernel
theorem dX9_areApart_69 : decode cX9_areApart 69 = .ok (.iinc 2 1, 3) := by decide +kernel
theorem dX9_areApart_72 : decode cX9_areApart 72 = .ok (.goto (-64), 3) := by decide +kernel
theorem dX9_areApart_75 : decode cX9_areApart 75 = .ok (.iload_n 1, 1) := by decide +kernel
theorem dX9_areApart_76 : decode cX9_areApart 76 = .ok (.ireturn, 1) := by decide +kernel
theorem dX9_canBeLaid_0 : decode cX9_canBeLaid 0 = .ok (.aload_n 0, 1) := by decide +kernel
theorem dX9_canBeLaid_1 : decode cX9_canBeLaid 1 = .ok (.getfield 34, 3) := by decide +kernel
theorem dX9_canBeLaid_4 : decode cX9_canBeLaid 4 = .ok (.iload_n 1, 1) := by decide +kernel
theorem dX9_canBeLaid_5 : decode cX9_canBeLaid 5 = .ok (.iaload, 1) := by decide +kernel
theorem dX9_canBeLaid_6 : decode cX9_canBeLaid 6 = .ok (.istore_n 3, 1) := by decide +kernel
theorem dX9_canBeLaid_7 : decode cX9_canBeLaid 7 = .ok (.aload_n 0, 1) := by decide +kernel
theorem dX9_canBeLaid_8 : decode cX9_canBeLaid 8 = .ok (.getfield 34, 3) := by decide +kernel
theorem dX9_canBeLaid_11 : decode cX9_canBeLaid 11 = .ok (.iload_n 2, 1) := by decide +kernel
theorem dX9_canBeLaid_12 : decode cX9_canBeLaid 12 = .ok (.iaload, 1) := by decide +kernel
theorem dX9_canBeLaid_13 : decode cX9_canBeLaid 13 = .ok (.istore 4, 2) := by decide +kernel
theorem dX9_canBeLaid_15 : decode cX9_canBeLaid 15 = .ok (.iconst 0, 1) := by decide +kernel
theorem dX9_canBeLaid_16 : decode cX9_canBeLaid 16 = .ok (.istore 5, 2) := by decide +kernel
theorem dX9_canBeLaid_18 : decode cX9_canBeLaid 18 = .ok (.iconst 0, 1) := by decide +kernel
theorem dX9_canBeLaid_19 : decode cX9_canBeLaid 19 = .ok (.istore 6, 2) := by decide +kernel
theorem dX9_canBeLaid_21 : decode cX9_canBeLaid 21 = .ok (.iload 6, 2) := by decide +kernel
theorem dX9_canBeLaid_23 : decode cX9_canBeLaid 23 = .ok (.bipush 100, 2) := by decide +kernel
theorem dX9_canBeLaid_25 : decode cX9_canBeLaid 25 = .ok (.if_icmp .ge 42, 3) := by decide +kernel
theorem dX9_canBeLaid_28 : decode cX9_canBeLaid 28 = .ok (.iload 5, 2) := by decide +kernel
theorem dX9_canBeLaid_30 : decode cX9_canBeLaid 30 = .ok (.ifCond .ne 37, 3) := by decide +kernel
theorem dX9_canBeLaid_33 : decode cX9_canBeLaid 33 = .ok (.aload_n 0, 1) := by decide +kernel
theorem dX9_canBeLaid_34 : decode cX9_canBeLaid 34 = .ok (.getfield 34, 3) := by decide +kernel
theorem dX9_canBeLaid_37 : decode cX9_canBeLaid 37 = .ok (.iload_n 2, 1) := by decide +kernel
theorem dX9_canBeLaid_38 : decode cX9_canBeLaid 38 = .ok (.iload 6, 2) := by decide +kernel
theorem dX9_canBeLaid_40 : decode cX9_canBeLaid 40 = .ok (.bipush 10, 2) := by decide +kernel
theorem dX9_canBeLaid_42 : decode cX9_canBeLaid 42 = .ok (.idiv, 1) := by decide +kernel
theorem dX9_canBeLaid_43 : decode cX9_canBeLaid 43 = .ok (.iastore, 1) := by decide +kernel
theorem dX9_canBeLaid_44 : decode cX9_canBeLaid 44 = .ok (.aload_n 0, 1) := by decide +kernel
theorem dX9_canBeLaid_45 : decode cX9_canBeLaid 45 = .ok (.getfield 34, 3) := by decide +kernel
theorem dX9_canBeLaid_48 : decode cX9_canBeLaid 48 = .ok (.iload_n 1, 1) := by decide +kernel
theorem dX9_canBeLaid_49 : decode cX9_canBeLaid 49 = .ok (.iload 6, 2) := by decide +kernel
theorem dX9_canBeLaid_51 : decode cX9_canBeLaid 51 = .ok (.bipush 10, 2) := by decide +kernel
theorem dX9_canBeLaid_53 : decode cX9_canBeLaid 53 = .ok (.irem, 1) := by decide +kernel
theorem dX9_canBeLaid_54 : decode cX9_canBeLaid 54 = .ok (.iastore, 1) := by decide +kernel
theorem dX9_canBeLaid_55 : decode cX9_canBeLaid 55 = .ok (.aload_n 0, 1) := by decide +kernel
theorem dX9_canBeLaid_56 : decode cX9_canBeLaid 56 = .ok (.invokevirtual 243, 3) := by decide +kernel
theorem dX9_canBeLaid_59 : decode cX9_canBeLaid 59 = .ok (.istore 5, 2) := by decide +kernel
theorem dX9_canBeLaid_61 : decode cX9_canBeLaid 61 = .ok (.iinc 6 1, 3) := by decide +kernel
theorem dX9_canBeLaid_64 : decode cX9_canBeLaid 64 = .ok (.goto (-43), 3) := by decide +kernel
theorem dX9_canBeLaid_67 : decode cX9_canBeLaid 67 = .ok (.aload_n 0, 1) := by decide +kernel
theorem dX9_canBeLaid_68 : decode cX9_canBeLaid 68 = .ok (.getfield 34, 3) := by decide +kernel
theorem dX9_canBeLaid_71 : decode cX9_canBeLaid 71 = .ok (.iload_n 1, 1) := by decide +kernel
theorem dX9_canBeLaid_72 : decode cX9_canBeLaid 72 = .ok (.iload_n 3, 1) := by decide +kernel
theorem dX9_canBeLaid_73 : decode cX9_canBeLaid 73 = .ok (.iastore, 1) := by decide +kernel
theorem dX9_canBeLaid_74 : decode cX9_canBeLaid 74 = .ok (.aload_n 0, 1) := by decide +kernel
theorem dX9_canBeLaid_75 : decode cX9_canBeLaid 75 = .ok (.getfield 34, 3) := by decide +kernel
theorem dX9_canBeLaid_78 : decode cX9_canBeLaid 78 = .ok (.iload_n 2, 1) := by decide +kernel
theorem dX9_canBeLaid_79 : decode cX9_canBeLaid 79 = .ok (.iload 4, 2) := by decide +kernel
theorem dX9_canBeLaid_81 : decode cX9_canBeLaid 81 = .ok (.iastore, 1) := by decide +kernel
theorem dX9_canBeLaid_82 : decode cX9_canBeLaid 82 = .ok (.aload_n 0, 1) := by decide +kernel
theorem dX9_canBeLaid_83 : decode cX9_canBeLaid 83 = .ok (.invokevirtual 175, 3) := by decide +kernel
theorem dX9_canBeLaid_86 : decode cX9_canBeLaid 86 = .ok (.iload 5, 2) := by decide +kernel
theorem dX9_canBeLaid_88 : decode cX9_canBeLaid 88 = .ok (.ireturn, 1) := by decide +kernel
theorem dX9_laidSet_0 : decode cX9_laidSet 0 = .ok (.aload_n 0, 1) := by decide +kernel
theorem dX9_laidSet_1 : decode cX9_laidSet 1 = .ok (.invokevirtual 243, 3) := by decide +kernel
theorem dX9_laidSet_4 : decode cX9_laidSet 4 = .ok (.ifCond .eq 5, 3) := by decide +kernel
theorem dX9_laidSet_7 : decode cX9_laidSet 7 = .ok (.iconst 0, 1) := by decide +kernel
theorem dX9_laidSet_8 : decode cX9_laidSet 8 = .ok (.ireturn, 1) := by decide +kernel
theorem dX9_laidSet_9 : decode cX9_laidSet 9 = .ok (.iconst 1, 1) := by decide +kernel
theorem dX9_laidSet_10 : decode cX9_laidSet 10 = .ok (.istore_n 1, 1) := by decide +kernel
theorem dX9_laidSet_11 : decode cX9_laidSet 11 = .ok (.iload_n 1, 1) := by decide +kernel
theorem dX9_laidSet_12 : decode cX9_laidSet 12 = .ok (.iconst 2, 1) := by decide +kernel
theorem dX9_laidSet_13 : decode cX9_laidSet 13 = .ok (.if_icmp .gt 168, 3) := by decide +kernel
theorem dX9_laidSet_16 : decode cX9_laidSet 16 = .ok (.iconst 1, 1) := by decide +kernel
theorem dX9_laidSet_17 : decode cX9_laidSet 17 = .ok (.istore_n 2, 1) := by decide +kernel
theorem dX9_laidSet_18 : decode cX9_laidSet 18 = .ok (.iload_n 2, 1) := by decide +kernel
theorem dX9_laidSet_19 : decode cX9_laidSet 19 = .ok (.iconst 1, 1) := by decide +kernel
theorem dX9_laidSet_20 : decode cX9_laidSet 20 = .ok (.aload_n 0, 1) := by decide +kernel
theorem dX9_laidSet_21 : decode cX9_laidSet 21 = .ok (.getfield 84, 3) := by decide +kernel
theorem dX9_laidSet_24 : decode cX9_laidSet 24 = .ok (.ishl, 1) := by decide +kernel
theorem dX9_laidSet_25 : decode cX9_laidSet 25 = .ok (.if_icmp .ge 150, 3) := by decide +kernel
theorem dX9_laidSet_28 : decode cX9_laidSet 28 = .ok (.iload_n 2, 1) := by decide +kernel
theorem dX9_laidSet_29 : decode cX9_laidSet 29 = .ok (.invokestatic 109, 3) := by decide +kernel
theorem dX9_laidSet_32 : decode cX9_laidSet 32 = .ok (.iload_n 1, 1) := by decide +kernel
theorem dX9_laidSet_33 : decode cX9_laidSet 33 = .ok (.if_icmp .ne 136, 3) := by decide +kernel
theorem dX9_laidSet_36 : decode cX9_laidSet 36 = .ok (.iconst 0, 1) := by decide +kernel
theorem dX9_laidSet_37 : decode cX9_laidSet 37 = .ok (.istore_n 3, 1) := by decide +kernel
theorem dX9_laidSet_38 : decode cX9_laidSet 38 = .ok (.iconst 0, 1) := by decide +kernel
theorem dX9_laidSet_39 : decode cX9_laidSet 39 = .ok (.istore 4, 2) := by decide +kernel
theorem dX9_laidSet_41 : decode cX9_laidSet 41 = .ok (.iconst 1, 1) := by decide +kernel
theorem dX9_laidSet_42 : decode cX9_laidSet 42 = .ok (.istore 5, 2) := by decide +kernel
theorem dX9_laidSet_44 : decode cX9_laidSet 44 = .ok (.aload_n 0, 1) := by decide +kernel
theorem dX9_laidSet_45 : decode cX9_laidSet 45 = .ok (.getfield 84, 3) := by decide +kernel
theorem dX9_laidSet_48 : decode cX9_laidSet 48 = .ok (.iconst 1, 1) := by decide +kernel
theorem dX9_laidSet_49 : decode cX9_laidSet 49 = .ok (.isub, 1) := by decide +kernel
theorem dX9_laidSet_50 : decode cX9_laidSet 50 = .ok (.istore 6, 2) := by decide +kernel
theorem dX9_laidSet_52 : decode cX9_laidSet 52 = .ok (.iload 6, 2) := by decide +kernel
theorem dX9_laidSet_54 : decode cX9_laidSet 54 = .ok (.ifCond .lt 26, 3) := by decide +kernel
theorem dX9_laidSet_57 : decode cX9_laidSet 57 = .ok (.iload_n 2, 1) := by decide +kernel
theorem dX9_laidSet_58 : decode cX9_laidSet 58 = .ok (.iload 6, 2) := by decide +kernel
theorem dX9_laidSet_60 : decode cX9_laidSet 60 = .ok (.ishr, 1) := by decide +kernel
theorem dX9_laidSet_61 : decode cX9_laidSet 61 = .ok (.iconst 1, 1) := by decide +kernel
theorem dX9_laidSet_62 : decode cX9_laidSet 62 = .ok (.iand, 1) := by decide +kernel
theorem dX9_laidSet_63 : decode cX9_laidSet 63 = .ok (.iconst 1, 1) := by decide +kernel
theorem dX9_laidSet_64 : decode cX9_laidSet 64 = .ok (.if_icmp .ne 8, 3) := by decide +kernel
theorem dX9_laidSet_67 : decode cX9_laidSet 67 = .ok (.iload 6, 2) := by decide +kernel
theorem dX9_laidSet_69 : decode cX9_laidSet 69 = .ok (.goto 4, 3) := by decide +kernel
theorem dX9_laidSet_72 : decode cX9_laidSet 72 = .ok (.iload_n 3, 1) := by decide +kernel
theorem dX9_laidSet_73 : decode cX9_laidSet 73 = .ok (.istore_n 3, 1) := by decide +kernel
theorem dX9_laidSet_74 : decode cX9_laidSet 74 = .ok (.iinc 6 (-1), 3) := by decide +kernel
theorem dX9_laidSet_77 : decode cX9_laidSet 77 = .ok (.goto (-25), 3) := by decide +kernel
theorem dX9_laidSet_80 : decode cX9_laidSet 80 = .ok (.iconst 0, 1) := by decide +kernel
theorem dX9_laidSet_81 : decode cX9_laidSet 81 = .ok (.istore 6, 2) := by decide +kernel
theorem dX9_laidSet_83 : decode cX9_laidSet 83 = .ok (.iload 6, 2) := by decide +kernel
theorem dX9_laidSet_85 : decode cX9_laidSet 85 = .ok (.aload_n 0, 1) := by decide +kernel
theorem dX9_laidSet_86 : decode cX9_laidSet 86 = .ok (.getfield 84, 3) := by decide +kernel
theorem dX9_laidSet_89 : decode cX9_laidSet 89 = .ok (.if_icmp .ge 63, 3) := by decide +kernel
theorem dX9_laidSet_92 : decode cX9_laidSet 92 = .ok (.iload_n 2, 1) := by decide +kernel
theorem dX9_laidSet_93 : decode cX9_laidSet 93 = .ok (.iload 6, 2) := by decide +kernel
theorem dX9_laidSet_95 : decode cX9_laidSet 95 = .ok (.ishr, 1) := by decide +kernel
theorem dX9_laidSet_96 : decode cX9_laidSet 96 = .ok (.iconst 1, 1) := by decide +kernel
theorem dX9_laidSet_97 : decode cX9_laidSet 97 = .ok (.iand, 1) := by decide +kernel
theorem dX9_laidSet_98 : decode cX9_laidSet 98 = .ok (.iconst 1, 1) := by decide +kernel
theorem dX9_laidSet_99 : decode cX9_laidSet 99 = .ok (.if_icmp .ne 8, 3) := by decide +kernel
theorem dX9_laidSet_102 : decode cX9_laidSet 102 = .ok (.iload 6, 2) := by decide +kernel
theorem dX9_laidSet_104 : decode cX9_laidSet 104 = .ok (.goto 5, 3) := by decide +kernel
theorem dX9_laidSet_107 : decode cX9_laidSet 107 = .ok (.iload 4, 2) := by decide +kernel
theorem dX9_laidSet_109 : decode cX9_laidSet 109 = .ok (.istore 4, 2) := by decide +kernel
theorem dX9_laidSet_111 : decode cX9_laidSet 111 = .ok (.iload 5, 2) := by decide +kernel
theorem dX9_laidSet_113 : decode cX9_laidSet 113 = .ok (.ifCond .eq 30, 3) := by decide +kernel
theorem dX9_laidSet_116 : decode cX9_laidSet 116 = .ok (.iload_n 2, 1) := by decide +kernel
theorem dX9_laidSet_117 : decode cX9_laidSet 117 = .ok (.iload 6, 2) := by decide +kernel
theorem dX9_laidSet_119 : decode cX9_laidSet 119 = .ok (.ishr, 1) := by decide +kernel
theorem dX9_laidSet_120 : decode cX9_laidSet 120 = .ok (.iconst 1, 1) := by decide +kernel
theorem dX9_laidSet_121 : decode cX9_laidSet 121 = .ok (.iand, 1) := by decide +kernel
theorem dX9_laidSet_122 : decode cX9_laidSet 122 = .ok (.ifCond .eq 17, 3) := by decide +kernel
theorem dX9_laidSet_125 : decode cX9_laidSet 125 = .ok (.aload_n 0, 1) := by decide +kernel
theorem dX9_laidSet_126 : decode cX9_laidSet 126 = .ok (.getfield 7, 3) := by decide +kernel
theorem dX9_laidSet_129 : decode cX9_laidSet 129 = .ok (.iconst 2, 1) := by decide +kernel
theorem dX9_laidSet_130 : decode cX9_laidSet 130 = .ok (.iload 6, 2) := by decide +kernel
theorem dX9_laidSet_132 : decode cX9_laidSet 132 = .ok (.invokestatic 88, 3) := by decide +kernel
theorem dX9_laidSet_135 : decode cX9_laidSet 135 = .ok (.iaload, 1) := by decide +kernel
theorem dX9_laidSet_136 : decode cX9_laidSet 136 = .ok (.ifCond .ne 7, 3) := by decide +kernel
theorem dX9_laidSet_139 : decode cX9_laidSet 139 = .ok (.iconst 1, 1) := by decide +kernel
theorem dX9_laidSet_140 : decode cX9_laidSet 140 = .ok (.goto 4, 3) := by decide +kernel
theorem dX9_laidSet_143 : decode cX9_laidSet 143 = .ok (.iconst 0, 1) := by decide +kernel
theorem dX9_laidSet_144 : decode cX9_laidSet 144 = .ok (.istore 5, 2) := by decide +kernel
theorem dX9_laidSet_146 : decode cX9_laidSet 146 = .ok (.iinc 6 1, 3) := by decide +kernel
theorem dX9_laidSet_149 : decode cX9_laidSet 149 = .ok (.goto (-66), 3) := by decide +kernel
theorem dX9_laidSet_152 : decode cX9_laidSet 152 = .ok (.iload 5, 2) := by decide +kernel
theorem dX9_laidSet_154 : decode cX9_laidSet 154 = .ok (.ifCond .eq 15, 3) := by decide +kernel
theorem dX9_laidSet_157 : decode cX9_laidSet 157 = .ok (.aload_n 0, 1) := by decide +kernel
theorem dX9_laidSet_158 : decode cX9_laidSet 158 = .ok (.iload_n 3, 1) := by decide +kernel
theorem dX9_laidSet_159 : decode cX9_laidSet 159 = .ok (.iload 4, 2) := by decide +kernel
theorem dX9_laidSet_161 : decode cX9_laidSet 161 = .ok (.invokevirtual 246, 3) := by decide +kernel
theorem dX9_laidSet_164 : decode cX9_laidSet 164 = .ok (.ifCond .eq 5, 3) := by decide +kernel
theorem dX9_laidSet_167 : decode cX9_laidSet 167 = .ok (.iload_n 2, 1) := by decide +kernel
theorem dX9_laidSet_168 : decode cX9_laidSet 168 = .ok (.ireturn, 1) := by decide +kernel
theorem dX9_laidSet_169 : decode cX9_laidSet 169 = .ok (.iinc 2 1, 3) := by decide +kernel
theorem dX9_laidSet_172 : decode cX9_laidSet 172 = .ok (.goto (-154), 3) := by decide +kernel
theorem dX9_laidSet_175 : decode cX9_laidSet 175 = .ok (.iinc 1 1, 3) := by decide +kernel
theorem dX9_laidSet_178 : decode cX9_laidSet 178 = .ok (.goto (-167), 3) := by decide +kernel
theorem dX9_laidSet_181 : decode cX9_laidSet 181 = .ok (.bipush (-6), 2) := by decide +kernel
theorem dX9_laidSet_183 : decode cX9_laidSet 183 = .ok (.ireturn, 1) := by decide +kernel
theorem dX9_lay_0 : decode cX9_lay 0 = .ok (.iload_n 1, 1) := by decide +kernel
theorem dX9_lay_1 : decode cX9_lay 1 = .ok (.i2l, 1) := by decide +kernel
theorem dX9_lay_2 : decode cX9_lay 2 = .ok (.lconst 0, 1) := by decide +kernel
theorem dX9_lay_3 : decode cX9_lay 3 = .ok (.lconst 1, 1) := by decide +kernel
theorem dX9_lay_4 : decode cX9_lay 4 = .ok (.invokestatic 92, 3) := by decide +kernel
theorem dX9_lay_7 : decode cX9_lay 7 = .ok (.ifCond .ne 6, 3) := by decide +kernel
theorem dX9_lay_10 : decode cX9_lay 10 = .ok (.bipush (-2), 2) := by decide +kernel
theorem dX9_lay_12 : decode cX9_lay 12 = .ok (.ireturn, 1) := by decide +kernel
theorem dX9_lay_13 : decode cX9_lay 13 = .ok (.aload_n 0, 1) := by decide +kernel
theorem dX9_lay_14 : decode cX9_lay 14 = .ok (.invokevirtual 169, 3) := by decide +kernel
theorem dX9_lay_17 : decode cX9_lay 17 = .ok (.aload_n 0, 1) := by decide +kernel
theorem dX9_lay_18 : decode cX9_lay 18 = .ok (.invokevirtual 250, 3) := by decide +kernel
theorem dX9_lay_21 : decode cX9_lay 21 = .ok (.istore_n 2, 1) := by decide +kernel
theorem dX9_lay_22 : decode cX9_lay 22 = .ok (.iload_n 2, 1) := by decide +kernel
theorem dX9_lay_23 : decode cX9_lay 23 = .ok (.ifCond .lt 8, 3) := by decide +kernel
theorem dX9_lay_26 : decode cX9_lay 26 = .ok (.iload_n 1, 1) := by decide +kernel
theorem dX9_lay_27 : decode cX9_lay 27 = .ok (.iconst 1, 1) := by decide +kernel
theorem dX9_lay_28 : decode cX9_lay 28 = .ok (.if_icmp .ne 7, 3) := by decide +kernel
theorem dX9_lay_31 : decode cX9_lay 31 = .ok (.iload_n 2, 1) := by decide +kernel
theorem dX9_lay_32 : decode cX9_lay 32 = .ok (.goto 7, 3) := by decide +kernel
theorem dX9_lay_35 : decode cX9_lay 35 = .ok (.iload_n 2, 1) := by decide +kernel
theorem dX9_lay_36 : decode cX9_lay 36 = .ok (.invokestatic 109, 3) := by decide +kernel
theorem dX9_lay_39 : decode cX9_lay 39 = .ok (.ireturn, 1) := by decide +kernel
theorem dX9_hide_0 : decode cX9_hide 0 = .ok (.aload_n 0, 1) := by decide +kernel
theorem dX9_hide_1 : decode cX9_hide 1 = .ok (.invokevirtual 178, 3) := by decide +kernel
theorem dX9_hide_4 : decode cX9_hide 4 = .ok (.istore_n 1, 1) := by decide +kernel
theorem dX9_hide_5 : decode cX9_hide 5 = .ok (.iload_n 1, 1) := by decide +kernel
theorem dX9_hide_6 : decode cX9_hide 6 = .ok (.bipush (-6), 2) := by decide +kernel
theorem dX9_hide_8 : decode cX9_hide 8 = .ok (.if_icmp .eq 5, 3) := by decide +kernel
theorem dX9_hide_11 : decode cX9_hide 11 = .ok (.iload_n 1, 1) := by decide +kernel
theorem dX9_hide_12 : decode cX9_hide 12 = .ok (.ireturn, 1) := by decide +kernel
theorem dX9_hide_13 : decode cX9_hide 13 = .ok (.iconst 0, 1) := by decide +kernel
theorem dX9_hide_14 : decode cX9_hide 14 = .ok (.istore_n 2, 1) := by decide +kernel
theorem dX9_hide_15 : decode cX9_hide 15 = .ok (.iconst 0, 1) := by decide +kernel
theorem dX9_hide_16 : decode cX9_hide 16 = .ok (.istore_n 3, 1) := by decide +kernel
theorem dX9_hide_17 : decode cX9_hide 17 = .ok (.iload_n 3, 1) := by decide +kernel
theorem dX9_hide_18 : decode cX9_hide 18 = .ok (.aload_n 0, 1) := by decide +kernel
theorem dX9_hide_19 : decode cX9_hide 19 = .ok (.getfield 84, 3) := by decide +kernel
theorem dX9_hide_22 : decode cX9_hide 22 = .ok (.if_icmp .ge 38, 3) := by decide +kernel
theorem dX9_hide_25 : decode cX9_hide 25 = .ok (.iload_n 2, 1) := by decide +kernel
theorem dX9_hide_26 : decode cX9_hide 26 = .ok (.aload_n 0, 1) := by decide +kernel
theorem dX9_hide_27 : decode cX9_hide 27 = .ok (.getfield 49, 3) := by decide +kernel
theorem dX9_hide_30 : decode cX9_hide 30 = .ok (.iload_n 3, 1) := by decide +kernel
theorem dX9_hide_31 : decode cX9_hide 31 = .ok (.iaload, 1) := by decide +kernel
theorem dX9_hide_32 : decode cX9_hide 32 = .ok (.aload_n 0, 1) := by decide +kernel
theorem dX9_hide_33 : decode cX9_hide 33 = .ok (.getfield 7, 3) := by decide +kernel
theorem dX9_hide_36 : decode cX9_hide 36 = .ok (.iconst 3, 1) := by decide +kernel
theorem dX9_hide_37 : decode cX9_hide 37 = .ok (.iload_n 3, 1) := by decide +kernel
theorem dX9_hide_38 : decode cX9_hide 38 = .ok (.invokestatic 88, 3) := by decide +kernel
theorem dX9_hide_41 : decode cX9_hide 41 = .ok (.iaload, 1) := by decide +kernel
theorem dX9_hide_42 : decode cX9_hide 42 = .ok (.if_icmp .eq 9, 3) := by decide +kernel
theorem dX9_hide_45 : decode cX9_hide 45 = .ok (.iconst 1, 1) := by decide +kernel
theorem dX9_hide_46 : decode cX9_hide 46 = .ok (.iload_n 3, 1) := by decide +kernel
theorem dX9_hide_47 : decode cX9_hide 47 = .ok (.ishl, 1) := by decide +kernel
theorem dX9_hide_48 : decode cX9_hide 48 = .ok (.goto 4, 3) := by decide +kernel
theorem dX9_hide_51 : decode cX9_hide 51 = .ok (.iconst 0, 1) := by decide +kernel
theorem dX9_hide_52 : decode cX9_hide 52 = .ok (.ior, 1) := by decide +kernel
theorem dX9_hide_53 : decode cX9_hide 53 = .ok (.istore_n 2, 1) := by decide +kernel
theorem dX9_hide_54 : decode cX9_hide 54 = .ok (.iinc 3 1, 3) := by decide +kernel
theorem dX9_hide_57 : decode cX9_hide 57 = .ok (.goto (-40), 3) := by decide +kernel
theorem dX9_hide_60 : decode cX9_hide 60 = .ok (.iload_n 2, 1) := by decide +kernel
theorem dX9_hide_61 : decode cX9_hide 61 = .ok (.ireturn, 1) := by decide +kernel
theorem dX9_isLeftSo_0 : decode cX9_isLeftSo 0 = .ok (.iconst 1, 1) := by decide +kernel
theorem dX9_isLeftSo_1 : decode cX9_isLeftSo 1 = .ok (.istore_n 1, 1) := by decide +kernel
theorem dX9_isLeftSo_2 : decode cX9_isLeftSo 2 = .ok (.iconst 0, 1) := by decide +kernel
theorem dX9_isLeftSo_3 : decode cX9_isLeftSo 3 = .ok (.istore_n 2, 1) := by decide +kernel
theorem dX9_isLeftSo_4 : decode cX9_isLeftSo 4 = .ok (.iload_n 2, 1) := by decide +kernel
theorem dX9_isLeftSo_5 : decode cX9_isLeftSo 5 = .ok (.aload_n 0, 1) := by decide +kernel
theorem dX9_isLeftSo_6 : decode cX9_isLeftSo 6 = .ok (.getfield 84, 3) := by decide +kernel
theorem dX9_isLeftSo_9 : decode cX9_isLeftSo 9 = .ok (.if_icmp .ge 38, 3) := by decide +kernel
theorem dX9_isLeftSo_12 : decode cX9_isLeftSo 12 = .ok (.iload_n 1, 1) := by decide +kernel
theorem dX9_isLeftSo_13 : decode cX9_isLeftSo 13 = .ok (.ifCond .eq 26, 3) := by decide +kernel
theorem dX9_isLeftSo_16 : decode cX9_isLeftSo 16 = .ok (.aload_n 0, 1) := by decide +kernel
theorem dX9_isLeftSo_17 : decode cX9_isLeftSo 17 = .ok (.getfield 7, 3) := by decide +kernel
theorem dX9_isLeftSo_20 : decode cX9_isLeftSo 20 = .ok (.iconst 3, 1) := by decide +kernel
theorem dX9_isLeftSo_21 : decode cX9_isLeftSo 21 = .ok (.iload_n 2, 1) := by decide +kernel
theorem dX9_isLeftSo_22 : decode cX9_isLeftSo 22 = .ok (.invokestatic 88, 3) := by decide +kernel
theorem dX9_isLeftSo_25 : decode cX9_isLeftSo 25 = .ok (.iaload, 1) := by decide +kernel
theorem dX9_isLeftSo_26 : decode cX9_isLeftSo 26 = .ok (.aload_n 0, 1) := by decide +kernel
theorem dX9_isLeftSo_27 : decode cX9_isLeftSo 27 = .ok (.getfield 49, 3) := by decide +kernel
theorem dX9_isLeftSo_30 : decode cX9_isLeftSo 30 = .ok (.iload_n 2, 1) := by decide +kernel
theorem dX9_isLeftSo_31 : decode cX9_isLeftSo 31 = .ok (.iaload, 1) := by decide +kernel
theorem dX9_isLeftSo_32 : decode cX9_isLeftSo 32 = .ok (.if_icmp .ne 7, 3) := by decide +kernel
theorem dX9_isLeftSo_35 : decode cX9_isLeftSo 35 = .ok (.iconst 1, 1) := by decide +kernel
theorem dX9_isLeftSo_36 : decode cX9_isLeftSo 36 = .ok (.goto 4, 3) := by decide +kernel
theorem dX9_isLeftSo_39 : decode cX9_isLeftSo 39 = .ok (.iconst 0, 1) := by decide +kernel
theorem dX9_isLeftSo_40 : decode cX9_isLeftSo 40 = .ok (.istore_n 1, 1) := by decide +kernel
theorem dX9_isLeftSo_41 : decode cX9_isLeftSo 41 = .ok (.iinc 2 1, 3) := by decide +kernel
theorem dX9_isLeftSo_44 : decode cX9_isLeftSo 44 = .ok (.goto (-40), 3) := by decide +kernel
theorem dX9_isLeftSo_47 : decode cX9_isLeftSo 47 = .ok (.iload_n 1, 1) := by decide +kernel
theorem dX9_isLeftSo_48 : decode cX9_isLeftSo 48 = .ok (.ireturn, 1) := by decide +kernel
theorem dX9_trace_0 : decode cX9_trace 0 = .ok (.aload_n 0, 1) := by decide +kernel
theorem dX9_trace_1 : decode cX9_trace 1 = .ok (.invokevirtual 178, 3) := by decide +kernel
theorem dX9_trace_4 : decode cX9_trace 4 = .ok (.istore_n 1, 1) := by decide +kernel
theorem dX9_trace_5 : decode cX9_trace 5 = .ok (.iload_n 1, 1) := by decide +kernel
theorem dX9_trace_6 : decode cX9_trace 6 = .ok (.bipush (-6), 2) := by decide +kernel
theorem dX9_trace_8 : decode cX9_trace 8 = .ok (.if_icmp .eq 5, 3) := by decide +kernel
theorem dX9_trace_11 : decode cX9_trace 11 = .ok (.iload_n 1, 1) := by decide +kernel
theorem dX9_trace_12 : decode cX9_trace 12 = .ok (.ireturn, 1) := by decide +kernel
theorem dX9_trace_13 : decode cX9_trace 13 = .ok (.aload_n 0, 1) := by decide +kernel
theorem dX9_trace_14 : decode cX9_trace 14 = .ok (.invokevirtual 169, 3) := by decide +kernel
theorem dX9_trace_17 : decode cX9_trace 17 = .ok (.bipush (-6), 2) := by decide +kernel
theorem dX9_trace_19 : decode cX9_trace 19 = .ok (.istore_n 2, 1) := by decide +kernel
theorem dX9_trace_20 : decode cX9_trace 20 = .ok (.iconst 0, 1) := by decide +kernel
theorem dX9_trace_21 : decode cX9_trace 21 = .ok (.istore_n 3, 1) := by decide +kernel
theorem dX9_trace_22 : decode cX9_trace 22 = .ok (.iload_n 3, 1) := by decide +kernel
theorem dX9_trace_23 : decode cX9_trace 23 = .ok (.bipush 6, 2) := by decide +kernel
theorem dX9_trace_25 : decode cX9_trace 25 = .ok (.if_icmp .gt 65, 3) := by decide +kernel
theorem dX9_trace_28 : decode cX9_trace 28 = .ok (.iload_n 2, 1) := by decide +kernel
theorem dX9_trace_29 : decode cX9_trace 29 = .ok (.ifCond .ge 61, 3) := by decide +kernel
theorem dX9_trace_32 : decode cX9_trace 32 = .ok (.iconst 0, 1) := by decide +kernel
theorem dX9_trace_33 : decode cX9_trace 33 = .ok (.istore 4, 2) := by decide +kernel
theorem dX9_trace_35 : decode cX9_trace 35 = .ok (.iload 4, 2) := by decide +kernel
theorem dX9_trace_37 : decode cX9_trace 37 = .ok (.iconst 4, 1) := by decide +kernel
theorem dX9_trace_38 : decode cX9_trace 38 = .ok (.iload_n 3, 1) := by decide +kernel
theorem dX9_trace_39 : decode cX9_trace 39 = .ok (.invokestatic 199, 3) := by decide +kernel
theorem dX9_trace_42 : decode cX9_trace 42 = .ok (.if_icmp .ge 42, 3) := by decide +kernel
theorem dX9_trace_45 : decode cX9_trace 45 = .ok (.iload_n 2, 1) := by decide +kernel
theorem dX9_trace_46 : decode cX9_trace 46 = .ok (.ifCond .ge 38, 3) := by decide +kernel
theorem dX9_trace_49 : decode cX9_trace 49 = .ok (.aload_n 0, 1) := by decide +kernel
theorem dX9_trace_50 : decode cX9_trace 50 = .ok (.iload 4, 2) := by decide +kernel
theorem dX9_trace_52 : decode cX9_trace 52 = .ok (.iload_n 3, 1) := by decide +kernel
theorem dX9_trace_53 : decode cX9_trace 53 = .ok (.invokevirtual 202, 3) := by decide +kernel
theorem dX9_trace_56 : decode cX9_trace 56 = .ok (.aload_n 0, 1) := by decide +kernel
theorem dX9_trace_57 : decode cX9_trace 57 = .ok (.iload_n 3, 1) := by decide +kernel
theorem dX9_trace_58 : decode cX9_trace 58 = .ok (.invokevirtual 205, 3) := by decide +kernel
theorem dX9_trace_61 : decode cX9_trace 61 = .ok (.ifCond .eq 14, 3) := by decide +kernel
theorem dX9_trace_64 : decode cX9_trace 64 = .ok (.aload_n 0, 1) := by decide +kernel
theorem dX9_trace_65 : decode cX9_trace 65 = .ok (.invokevirtual 253, 3) := by decide +kernel
theorem dX9_trace_68 : decode cX9_trace 68 = .ok (.ifCond .eq 7, 3) := by decide +kernel
theorem dX9_trace_71 : decode cX9_trace 71 = .ok (.iload_n 3, 1) := by decide +kernel
theorem dX9_trace_72 : decode cX9_trace 72 = .ok (.goto 5, 3) := by decide +kernel
theorem dX9_trace_75 : decode cX9_trace 75 = .ok (.bipush (-6), 2) := by decide +kernel
theorem dX9_trace_77 : decode cX9_trace 77 = .ok (.istore_n 2, 1) := by decide +kernel
theorem dX9_trace_78 : decode cX9_trace 78 = .ok (.iinc 4 1, 3) := by decide +kernel
theorem dX9_trace_81 : decode cX9_trace 81 = .ok (.goto (-46), 3) := by decide +kernel
theorem dX9_trace_84 : decode cX9_trace 84 = .ok (.iinc 3 1, 3) := by decide +kernel
theorem dX9_trace_87 : decode cX9_trace 87 = .ok (.goto (-65), 3) := by decide +kernel
theorem dX9_trace_90 : decode cX9_trace 90 = .ok (.aload_n 0, 1) := by decide +kernel
theorem dX9_trace_91 : decode cX9_trace 91 = .ok (.invokevirtual 175, 3) := by decide +kernel
theorem dX9_trace_94 : decode cX9_trace 94 = .ok (.iload_n 2, 1) := by decide +kernel
theorem dX9_trace_95 : decode cX9_trace 95 = .ok (.ireturn, 1) := by decide +kernel
theorem dX9_lock_0 : decode cX9_lock 0 = .ok (.iload_n 1, 1) := by decide +kernel
theorem dX9_lock_1 : decode cX9_lock 1 = .ok (.iconst (-1), 1) := by decide +kernel
theorem dX9_lock_2 : decode cX9_lock 2 = .ok (.if_icmp .eq 13, 3) := by decide +kernel
theorem dX9_lock_5 : decode cX9_lock 5 = .ok (.aload_n 0, 1) := by decide +kernel
theorem dX9_lock_6 : decode cX9_lock 6 = .ok (.iload_n 1, 1) := by decide +kernel
theorem dX9_lock_7 : decode cX9_lock 7 = .ok (.invokevirtual 103, 3) := by decide +kernel
theorem dX9_lock_10 : decode cX9_lock 10 = .ok (.ifCond .ne 5, 3) := by decide +kernel
theorem dX9_lock_13 : decode cX9_lock 13 = .ok (.iconst (-1), 1) := by decide +kernel
theorem dX9_lock_14 : decode cX9_lock 14 = .ok (.ireturn, 1) := by decide +kernel
theorem dX9_lock_15 : decode cX9_lock 15 = .ok (.iload_n 2, 1) := by decide +kernel
theorem dX9_lock_16 : decode cX9_lock 16 = .ok (.i2l, 1) := by decide +kernel
theorem dX9_lock_17 : decode cX9_lock 17 = .ok (.lconst 0, 1) := by decide +kernel
theorem dX9_lock_18 : decode cX9_lock 18 = .ok (.ldc2_w 256, 3) := by decide +kernel
theorem dX9_lock_21 : decode cX9_lock 21 = .ok (.invokestatic 92, 3) := by decide +kernel
theorem dX9_lock_24 : decode cX9_lock 24 = .ok (.ifCond .ne 6, 3) := by decide +kernel
theorem dX9_lock_27 : decode cX9_lock 27 = .ok (.bipush (-2), 2) := by decide +kernel
theorem dX9_lock_29 : decode cX9_lock 29 = .ok (.ireturn, 1) := by decide +kernel
theorem dX9_lock_30 : decode cX9_lock 30 = .ok (.aload_n 0, 1) := by decide +kernel
theorem dX9_lock_31 : decode cX9_lock 31 = .ok (.invokevirtual 169, 3) := by decide +kernel
theorem dX9_lock_34 : decode cX9_lock 34 = .ok (.iload_n 1, 1) := by decide +kernel
theorem dX9_lock_35 : decode cX9_lock 35 = .ok (.ifCond .ge 7, 3) := by decide +kernel
theorem dX9_lock_38 : decode cX9_lock 38 = .ok (.iconst 0, 1) := by decide +kernel
theorem dX9_lock_39 : decode cX9_lock 39 = .ok (.goto 8, 3) := by decide +kernel
theorem dX9_lock_42 : decode cX9_lock 42 = .ok (.iconst 2, 1) := by decide +kernel
theorem dX9_lock_43 : decode cX9_lock 43 = .ok (.iload_n 1, 1) := by decide +kernel
theorem dX9_lock_44 : decode cX9_lock 44 = .ok (.invokestatic 88, 3) := by decide +kernel
theorem dX9_lock_47 : decode cX9_lock 47 = .ok (.istore_n 3, 1) := by decide +kernel
theorem dX9_lock_48 : decode cX9_lock 48 = .ok (.aload_n 0, 1) := by decide +kernel
theorem dX9_lock_49 : decode cX9_lock 49 = .ok (.getfield 7, 3) := by decide +kernel
theorem dX9_lock_52 : decode cX9_lock 52 = .ok (.iload_n 3, 1) := by decide +kernel
theorem dX9_lock_53 : decode cX9_lock 53 = .ok (.iaload, 1) := by decide +kernel
theorem dX9_lock_54 : decode cX9_lock 54 = .ok (.istore 4, 2) := by decide +kernel
theorem dX9_lock_56 : decode cX9_lock 56 = .ok (.aload_n 0, 1) := by decide +kernel
theorem dX9_lock_57 : decode cX9_lock 57 = .ok (.getfield 7, 3) := by decide +kernel
theorem dX9_lock_60 : decode cX9_lock 60 = .ok (.iload_n 3, 1) := by decide +kernel
theorem dX9_lock_61 : decode cX9_lock 61 = .ok (.iload_n 1, 1) := by decide +kernel
theorem dX9_lock_62 : decode cX9_lock 62 = .ok (.ifCond .ge 8, 3) := by decide +kernel
theorem dX9_lock_65 : decode cX9_lock 65 = .ok (.iload 4, 2) := by decide +kernel
theorem dX9_lock_67 : decode cX9_lock 67 = .ok (.goto 4, 3) := by decide +kernel
theorem dX9_lock_70 : decode cX9_lock 70 = .ok (.iconst 1, 1) := by decide +kernel
theorem dX9_lock_71 : decode cX9_lock 71 = .ok (.iastore, 1) := by decide +kernel
theorem dX9_lock_72 : decode cX9_lock 72 = .ok (.iconst 0, 1) := by decide +kernel
theorem dX9_lock_73 : decode cX9_lock 73 = .ok (.istore 5, 2) := by decide +kernel
theorem dX9_lock_75 : decode cX9_lock 75 = .ok (.iconst 0, 1) := by decide +kernel
theorem dX9_lock_76 : decode cX9_lock 76 = .ok (.istore 6, 2) := by decide +kernel
theorem dX9_lock_78 : decode cX9_lock 78 = .ok (.iload 6, 2) := by decide +kernel
theorem dX9_lock_80 : decode cX9_lock 80 = .ok (.iconst 4, 1) := by decide +kernel
theorem dX9_lock_81 : decode cX9_lock 81 = .ok (.iload_n 2, 1) := by decide +kernel
theorem dX9_lock_82 : decode cX9_lock 82 = .ok (.invokestatic 199, 3) := by decide +kernel
theorem dX9_lock_85 : decode cX9_lock 85 = .ok (.if_icmp .ge 97, 3) := by decide +kernel
theorem dX9_lock_88 : decode cX9_lock 88 = .ok (.aload_n 0, 1) := by decide +kernel
theorem dX9_lock_89 : decode cX9_lock 89 = .ok (.iload 6, 2) := by decide +kernel
theorem dX9_lock_91 : decode cX9_lock 91 = .ok (.iload_n 2, 1) := by decide +kernel
theorem dX9_lock_92 : decode cX9_lock 92 = .ok (.invokevirtual 202, 3) := by decide +kernel
theorem dX9_lock_95 : decode cX9_lock 95 = .ok (.aload_n 0, 1) := by decide +kernel
theorem dX9_lock_96 : decode cX9_lock 96 = .ok (.iload_n 2, 1) := by decide +kernel
theorem dX9_lock_97 : decode cX9_lock 97 = .ok (.invokevirtual 205, 3) := by decide +kernel
theorem dX9_lock_100 : decode cX9_lock 100 = .ok (.ifCond .eq 76, 3) := by decide +kernel
theorem dX9_lock_103 : decode cX9_lock 103 = .ok (.aload_n 0, 1) := by decide +kernel
theorem dX9_lock_104 : decode cX9_lock 104 = .ok (.invokevirtual 237, 3) := by decide +kernel
theorem dX9_lock_107 : decode cX9_lock 107 = .ok (.istore 7, 2) := by decide +kernel
theorem dX9_lock_109 : decode cX9_lock 109 = .ok (.iconst 0, 1) := by decide +kernel
theorem dX9_lock_110 : decode cX9_lock 110 = .ok (.istore 8, 2) := by decide +kernel
theorem dX9_lock_112 : decode cX9_lock 112 = .ok (.iconst 0, 1) := by decide +kernel
theorem dX9_lock_113 : decode cX9_lock 113 = .ok (.istore 9, 2) := by decide +kernel
theorem dX9_lock_115 : decode cX9_lock 115 = .ok (.iload 9, 2) := by decide +kernel
theorem dX9_lock_117 : decode cX9_lock 117 = .ok (.iload 5, 2) := by decide +kernel
theorem dX9_lock_119 : decode cX9_lock 119 = .ok (.if_icmp .ge 33, 3) := by decide +kernel
theorem dX9_lock_122 : decode cX9_lock 122 = .ok (.iload 8, 2) := by decide +kernel
theorem dX9_lock_124 : decode cX9_lock 124 = .ok (.ifCond .ne 15, 3) := by decide +kernel
theorem dX9_lock_127 : decode cX9_lock 127 = .ok (.aload_n 0, 1) := by decide +kernel
theorem dX9_lock_128 : decode cX9_lock 128 = .ok (.getfield 70, 3) := by decide +kernel
theorem dX9_lock_131 : decode cX9_lock 131 = .ok (.iload 9, 2) := by decide +kernel
theorem dX9_lock_133 : decode cX9_lock 133 = .ok (.iaload, 1) := by decide +kernel
theorem dX9_lock_134 : decode cX9_lock 134 = .ok (.iload 7, 2) := by decide +kernel
theorem dX9_lock_136 : decode cX9_lock 136 = .ok (.if_icmp .ne 7, 3) := by decide +kernel
theorem dX9_lock_139 : decode cX9_lock 139 = .ok (.iconst 1, 1) := by decide +kernel
theorem dX9_lock_140 : decode cX9_lock 140 = .ok (.goto 4, 3) := by decide +kernel
theorem dX9_lock_143 : decode cX9_lock 143 = .ok (.iconst 0, 1) := by decide +kernel
theorem dX9_lock_144 : decode cX9_lock 144 = .ok (.istore 8, 2) := by decide +kernel
theorem dX9_lock_146 : decode cX9_lock 146 = .ok (.iinc 9 1, 3) := by decide +kernel
theorem dX9_lock_149 : decode cX9_lock 149 = .ok (.goto (-34), 3) := by decide +kernel
theorem dX9_lock_152 : decode cX9_lock 152 = .ok (.aload_n 0, 1) := by decide +kernel
theorem dX9_lock_153 : decode cX9_lock 153 = .ok (.getfield 70, 3) := by decide +kernel
theorem dX9_lock_156 : decode cX9_lock 156 = .ok (.iload 5, 2) := by decide +kernel
theorem dX9_lock_158 : decode cX9_lock 158 = .ok (.iload 7, 2) := by decide +kernel
theorem dX9_lock_160 : decode cX9_lock 160 = .ok (.iastore, 1) := by decide +kernel
theorem dX9_lock_161 : decode cX9_lock 161 = .ok (.iload 5, 2) := by decide +kernel
theorem dX9_lock_163 : decode cX9_lock 163 = .ok (.iload 8, 2) := by decide +kernel
theorem dX9_lock_165 : decode cX9_lock 165 = .ok (.ifCond .eq 7, 3) := by decide +kernel
theorem dX9_lock_168 : decode cX9_lock 168 = .ok (.iconst 0, 1) := by decide +kernel
theorem dX9_lock_169 : decode cX9_lock 169 = .ok (.goto 4, 3) := by decide +kernel
theorem dX9_lock_172 : decode cX9_lock 172 = .ok (.iconst 1, 1) := by decide +kernel
theorem dX9_lock_173 : decode cX9_lock 173 = .ok (.iadd, 1) := by decide +kernel
theorem dX9_lock_174 : decode cX9_lock 174 = .ok (.istore 5, 2) := by decide +kernel
theorem dX9_lock_176 : decode cX9_lock 176 = .ok (.iinc 6 1, 3) := by decide +kernel
theorem dX9_lock_179 : decode cX9_lock 179 = .ok (.goto (-101), 3) := by decide +kernel
theorem dX9_lock_182 : decode cX9_lock 182 = .ok (.aload_n 0, 1) := by decide +kernel
theorem dX9_lock_183 : decode cX9_lock 183 = .ok (.getfield 7, 3) := by decide +kernel
theorem dX9_lock_186 : decode cX9_lock 186 = .ok (.iload_n 3, 1) := by decide +kernel
theorem dX9_lock_187 : decode cX9_lock 187 = .ok (.iload 4, 2) := by decide +kernel
theorem dX9_lock_189 : decode cX9_lock 189 = .ok (.iastore, 1) := by decide +kernel
theorem dX9_lock_190 : decode cX9_lock 190 = .ok (.aload_n 0, 1) := by decide +kernel
theorem dX9_lock_191 : decode cX9_lock 191 = .ok (.invokevirtual 175, 3) := by decide +kernel
theorem dX9_lock_194 : decode cX9_lock 194 = .ok (.iload 5, 2) := by decide +kernel
theorem dX9_lock_196 : decode cX9_lock 196 = .ok (.ireturn, 1) := by decide +kernel
theorem dX9_year_0 : decode cX9_year 0 = .ok (.iload_n 1, 1) := by decide +kernel
theorem dX9_year_1 : decode cX9_year 1 = .ok (.i2l, 1) := by decide +kernel
theorem dX9_year_2 : decode cX9_year 2 = .ok (.lconst 0, 1) := by decide +kernel
theorem dX9_year_3 : decode cX9_year 3 = .ok (.ldc2_w 258, 3) := by decide +kernel
theorem dX9_year_6 : decode cX9_year 6 = .ok (.invokestatic 92, 3) := by decide +kernel
theorem dX9_year_9 : decode cX9_year 9 = .ok (.ifCond .eq 27, 3) := by decide +kernel
theorem dX9_year_12 : decode cX9_year 12 = .ok (.iload_n 2, 1) := by decide +kernel
theorem dX9_year_13 : decode cX9_year 13 = .ok (.i2l, 1) := by decide +kernel
theorem dX9_year_14 : decode cX9_year 14 = .ok (.lconst 1, 1) := by decide +kernel
theorem dX9_year_15 : decode cX9_year 15 = .ok (.ldc2_w 260, 3) := by decide +kernel
theorem dX9_year_18 : decode cX9_year 18 = .ok (.invokestatic 92, 3) := by decide +kernel
theorem dX9_year_21 : decode cX9_year 21 = .ok (.ifCond .eq 15, 3) := by decide +kernel
theorem dX9_year_24 : decode cX9_year 24 = .ok (.iload_n 3, 1) := by decide +kernel
theorem dX9_year_25 : decode cX9_year 25 = .ok (.i2l, 1) := by decide +kernel
theorem dX9_year_26 : decode cX9_year 26 = .ok (.lconst 0, 1) := by decide +kernel
theorem dX9_year_27 : decode cX9_year 27 = .ok (.ldc2_w 262, 3) := by decide +kernel
theorem dX9_year_30 : decode cX9_year 30 = .ok (.invokestatic 92, 3) := by decide +kernel
theorem dX9_year_33 : decode cX9_year 33 = .ok (.ifCond .ne 6, 3) := by decide +kernel
theorem dX9_year_36 : decode cX9_year 36 = .ok (.bipush (-2), 2) := by decide +kernel
theorem dX9_year_38 : decode cX9_year 38 = .ok (.ireturn, 1) := by decide +kernel
theorem dX9_year_39 : decode cX9_year 39 = .ok (.aload_n 0, 1) := by decide +kernel
theorem dX9_year_40 : decode cX9_year 40 = .ok (.invokevirtual 169, 3) := by decide +kernel
theorem dX9_year_43 : decode cX9_year 43 = .ok (.iload_n 1, 1) := by decide +kernel
theorem dX9_year_44 : decode cX9_year 44 = .ok (.istore 4, 2) := by decide +kernel
theorem dX9_year_46 : decode cX9_year 46 = .ok (.aload_n 0, 1) := by decide +kernel
theorem dX9_year_47 : decode cX9_year 47 = .ok (.iconst 0, 1) := by decide +kernel
theorem dX9_year_48 : decode cX9_year 48 = .ok (.putfield 136, 3) := by decide +kernel
theorem dX9_year_51 : decode cX9_year 51 = .ok (.iconst 0, 1) := by decide +kernel
theorem dX9_year_52 : decode cX9_year 52 = .ok (.istore 5, 2) := by decide +kernel
theorem dX9_year_54 : decode cX9_year 54 = .ok (.iconst 0, 1) := by decide +kernel
theorem dX9_year_55 : decode cX9_year 55 = .ok (.istore 6, 2) := by decide +kernel
theorem dX9_year_57 : decode cX9_year 57 = .ok (.iconst 0, 1) := by decide +kernel
theorem dX9_year_58 : decode cX9_year 58 = .ok (.istore 7, 2) := by decide +kernel
theorem dX9_year_60 : decode cX9_year 60 = .ok (.iload 7, 2) := by decide +kernel
theorem dX9_year_62 : decode cX9_year 62 = .ok (.iload_n 2, 1) := by decide +kernel
theorem dX9_year_63 : decode cX9_year 63 = .ok (.if_icmp .ge 133, 3) := by decide +kernel
theorem dX9_year_66 : decode cX9_year 66 = .ok (.aload_n 0, 1) := by decide +kernel
theorem dX9_year_67 : decode cX9_year 67 = .ok (.invokevirtual 175, 3) := by decide +kernel
theorem dX9_year_70 : decode cX9_year 70 = .ok (.aload_n 0, 1) := by decide +kernel
theorem dX9_year_71 : decode cX9_year 71 = .ok (.bipush (-6), 2) := by decide +kernel
theorem dX9_year_73 : decode cX9_year 73 = .ok (.putfield 127, 3) := by decide +kernel
theorem dX9_year_76 : decode cX9_year 76 = .ok (.aload_n 0, 1) := by decide +kernel
theorem dX9_year_77 : decode cX9_year 77 = .ok (.getfield 136, 3) := by decide +kernel
theorem dX9_year_80 : decode cX9_year 80 = .ok (.istore 8, 2) := by decide +kernel
theorem dX9_year_82 : decode cX9_year 82 = .ok (.iconst 0, 1) := by decide +kernel
theorem dX9_year_83 : decode cX9_year 83 = .ok (.istore 9, 2) := by decide +kernel
theorem dX9_year_85 : decode cX9_year 85 = .ok (.iload 9, 2) := by decide +kernel
theorem dX9_year_87 : decode cX9_year 87 = .ok (.iconst 3, 1) := by decide +kernel
theorem dX9_year_88 : decode cX9_year 88 = .ok (.if_icmp .ge 83, 3) := by decide +kernel
theorem dX9_year_91 : decode cX9_year 91 = .ok (.ldc2_w 264, 3) := by decide +kernel
theorem dX9_year_94 : decode cX9_year 94 = .ok (.iload 4, 2) := by decide +kernel
theorem dX9_year_96 : decode cX9_year 96 = .ok (.i2l, 1) := by decide +kernel
theorem dX9_year_97 : decode cX9_year 97 = .ok (.lmul, 1) := by decide +kernel
theorem dX9_year_98 : decode cX9_year 98 = .ok (.ldc2_w 266, 3) := by decide +kernel
theorem dX9_year_101 : decode cX9_year 101 = .ok (.ladd, 1) := by decide +kernel
theorem dX9_year_102 : decode cX9_year 102 = .ok (.ldc2_w 268, 3) := by decide +kernel
theorem dX9_year_105 : decode cX9_year 105 = .ok (.lrem, 1) := by decide +kernel
theorem dX9_year_106 : decode cX9_year 106 = .ok (.l2i, 1) := by decide +kernel
theorem dX9_year_107 : decode cX9_year 107 = .ok (.istore 4, 2) := by decide +kernel
theorem dX9_year_109 : decode cX9_year 109 = .ok (.iload 4, 2) := by decide +kernel
theorem dX9_year_111 : decode cX9_year 111 = .ok (.iconst 4, 1) := by decide +kernel
theorem dX9_year_112 : decode cX9_year 112 = .ok (.irem, 1) := by decide +kernel
theorem dX9_year_113 : decode cX9_year 113 = .ok (.istore 10, 2) := by decide +kernel
theorem dX9_year_115 : decode cX9_year 115 = .ok (.aload_n 0, 1) := by decide +kernel
theorem dX9_year_116 : decode cX9_year 116 = .ok (.iload 10, 2) := by decide +kernel
theorem dX9_year_118 : decode cX9_year 118 = .ok (.invokevirtual 113, 3) := by decide +kernel
theorem dX9_year_121 : decode cX9_year 121 = .ok (.ifCond .eq 12, 3) := by decide +kernel
theorem dX9_year_124 : decode cX9_year 124 = .ok (.aload_n 0, 1) := by decide +kernel
theorem dX9_year_125 : decode cX9_year 125 = .ok (.iload 10, 2) := by decide +kernel
theorem dX9_year_127 : decode cX9_year 127 = .ok (.invokevirtual 139, 3) := by decide +kernel
theorem dX9_year_130 : decode cX9_year 130 = .ok (.goto 5, 3) := by decide +kernel
theorem dX9_year_133 : decode cX9_year 133 = .ok (.bipush (-6), 2) := by decide +kernel
theorem dX9_year_135 : decode cX9_year 135 = .ok (.istore 11, 2) := by decide +kernel
theorem dX9_year_137 : decode cX9_year 137 = .ok (.iload 11, 2) := by decide +kernel
theorem dX9_year_139 : decode cX9_year 139 = .ok (.ifCond .lt 11, 3) := by decide +kernel
theorem dX9_year_142 : decode cX9_year 142 = .ok (.aload_n 0, 1) := by decide +kernel
theorem dX9_year_143 : decode cX9_year 143 = .ok (.iload 10, 2) := by decide +kernel
theorem dX9_year_145 : decode cX9_year 145 = .ok (.iload 11, 2) := by decide +kernel
theorem dX9_year_147 : decode cX9_year 147 = .ok (.invokevirtual 151, 3) := by decide +kernel
theorem dX9_year_150 : decode cX9_year 150 = .ok (.iload 5, 2) := by decide +kernel
theorem dX9_year_152 : decode cX9_year 152 = .ok (.iload 11, 2) := by decide +kernel
theorem dX9_year_154 : decode cX9_year 154 = .ok (.ifCond .ne 7, 3) := by decide +kernel
theorem dX9_year_157 : decode cX9_year 157 = .ok (.iconst 1, 1) := by decide +kernel
theorem dX9_year_158 : decode cX9_year 158 = .ok (.goto 4, 3) := by decide +kernel
theorem dX9_year_161 : decode cX9_year 161 = .ok (.iconst 0, 1) := by decide +kernel
theorem dX9_year_162 : decode cX9_year 162 = .ok (.iadd, 1) := by decide +kernel
theorem dX9_year_163 : decode cX9_year 163 = .ok (.istore 5, 2) := by decide +kernel
theorem dX9_year_165 : decode cX9_year 165 = .ok (.iinc 9 1, 3) := by decide +kernel
theorem dX9_year_168 : decode cX9_year 168 = .ok (.goto (-83), 3) := by decide +kernel
theorem dX9_year_171 : decode cX9_year 171 = .ok (.iload 6, 2) := by decide +kernel
theorem dX9_year_173 : decode cX9_year 173 = .ok (.aload_n 0, 1) := by decide +kernel
theorem dX9_year_174 : decode cX9_year 174 = .ok (.getfield 136, 3) := by decide +kernel
theorem dX9_year_177 : decode cX9_year 177 = .ok (.iload 8, 2) := by decide +kernel
theorem dX9_year_179 : decode cX9_year 179 = .ok (.if_icmp .ne 7, 3) := by decide +kernel
theorem dX9_year_182 : decode cX9_year 182 = .ok (.iconst 1, 1) := by decide +kernel
theorem dX9_year_183 : decode cX9_year 183 = .ok (.goto 4, 3) := by decide +kernel
theorem dX9_year_186 : decode cX9_year 186 = .ok (.iconst 0, 1) := by decide +kernel
theorem dX9_year_187 : decode cX9_year 187 = .ok (.iadd, 1) := by decide +kernel
theorem dX9_year_188 : decode cX9_year 188 = .ok (.istore 6, 2) := by decide +kernel
theorem dX9_year_190 : decode cX9_year 190 = .ok (.iinc 7 1, 3) := by decide +kernel
theorem dX9_year_193 : decode cX9_year 193 = .ok (.goto (-133), 3) := by decide +kernel
theorem dX9_year_196 : decode cX9_year 196 = .ok (.aload_n 0, 1) := by decide +kernel
theorem dX9_year_197 : decode cX9_year 197 = .ok (.invokevirtual 175, 3) := by decide +kernel
theorem dX9_year_200 : decode cX9_year 200 = .ok (.iload_n 3, 1) := by decide +kernel
theorem dX9_year_201 : decode cX9_year 201 = .ok (.ifCond .ne 10, 3) := by decide +kernel
theorem dX9_year_204 : decode cX9_year 204 = .ok (.aload_n 0, 1) := by decide +kernel
theorem dX9_year_205 : decode cX9_year 205 = .ok (.getfield 136, 3) := by decide +kernel
theorem dX9_year_208 : decode cX9_year 208 = .ok (.goto 15, 3) := by decide +kernel
theorem dX9_year_211 : decode cX9_year 211 = .ok (.iload_n 3, 1) := by decide +kernel
theorem dX9_year_212 : decode cX9_year 212 = .ok (.iconst 1, 1) := by decide +kernel
theorem dX9_year_213 : decode cX9_year 213 = .ok (.if_icmp .ne 8, 3) := by decide +kernel
theorem dX9_year_216 : decode cX9_year 216 = .ok (.iload 5, 2) := by decide +kernel
theorem dX9_year_218 : decode cX9_year 218 = .ok (.goto 5, 3) := by decide +kernel
theorem dX9_year_221 : decode cX9_year 221 = .ok (.iload 6, 2) := by decide +kernel
theorem dX9_year_223 : decode cX9_year 223 = .ok (.ireturn, 1) := by decide +kernel
theorem dX9_pass_0 : decode cX9_pass 0 = .ok (.aload_n 0, 1) := by decide +kernel
theorem dX9_pass_1 : decode cX9_pass 1 = .ok (.getfield 270, 3) := by decide +kernel
theorem dX9_pass_4 : decode cX9_pass 4 = .ok (.ifCond .eq 7, 3) := by decide +kernel
theorem dX9_pass_7 : decode cX9_pass 7 = .ok (.iload_n 1, 1) := by decide +kernel
theorem dX9_pass_8 : decode cX9_pass 8 = .ok (.goto 12, 3) := by decide +kernel
theorem dX9_pass_11 : decode cX9_pass 11 = .ok (.aload_n 0, 1) := by decide +kernel
theorem dX9_pass_12 : decode cX9_pass 12 = .ok (.getfield 73, 3) := by decide +kernel
theorem dX9_pass_15 : decode cX9_pass 15 = .ok (.aload_n 0, 1) := by decide +kernel
theorem dX9_pass_16 : decode cX9_pass 16 = .ok (.getfield 274, 3) := by decide +kernel
theorem dX9_pass_19 : decode cX9_pass 19 = .ok (.iaload, 1) := by decide +kernel
theorem dX9_pass_20 : decode cX9_pass 20 = .ok (.istore_n 2, 1) := by decide +kernel
theorem dX9_pass_21 : decode cX9_pass 21 = .ok (.aload_n 0, 1) := by decide +kernel
theorem dX9_pass_22 : decode cX9_pass 22 = .ok (.getfield 73, 3) := by decide +kernel
theorem dX9_pass_25 : decode cX9_pass 25 = .ok (.aload_n 0, 1) := by decide +kernel
theorem dX9_pass_26 : decode cX9_pass 26 = .ok (.getfield 274, 3) := by decide +kernel
theorem dX9_pass_29 : decode cX9_pass 29 = .ok (.iload_n 2, 1) := by decide +kernel
theorem dX9_pass_30 : decode cX9_pass 30 = .ok (.iastore, 1) := by decide +kernel
theorem dX9_pass_31 : decode cX9_pass 31 = .ok (.aload_n 0, 1) := by decide +kernel
theorem dX9_pass_32 : decode cX9_pass 32 = .ok (.dup, 1) := by decide +kernel
theorem dX9_pass_33 : decode cX9_pass 33 = .ok (.getfield 274, 3) := by decide +kernel
theorem dX9_pass_36 : decode cX9_pass 36 = .ok (.iconst 1, 1) := by decide +kernel
theorem dX9_pass_37 : decode cX9_pass 37 = .ok (.iadd, 1) := by decide +kernel
theorem dX9_pass_38 : decode cX9_pass 38 = .ok (.putfield 274, 3) := by decide +kernel
theorem dX9_pass_41 : decode cX9_pass 41 = .ok (.iload_n 2, 1) := by decide +kernel
theorem dX9_pass_42 : decode cX9_pass 42 = .ok (.ireturn, 1) := by decide +kernel
theorem dX9_passAll_0 : decode cX9_passAll 0 = .ok (.aload_n 0, 1) := by decide +kernel
theorem dX9_passAll_1 : decode cX9_passAll 1 = .ok (.aload_n 0, 1) := by decide +kernel
theorem dX9_passAll_2 : decode cX9_passAll 2 = .ok (.aload_n 0, 1) := by decide +kernel
theorem dX9_passAll_3 : decode cX9_passAll 3 = .ok (.getfield 84, 3) := by decide +kernel
theorem dX9_passAll_6 : decode cX9_passAll 6 = .ok (.invokevirtual 277, 3) := by decide +kernel
theorem dX9_passAll_9 : decode cX9_passAll 9 = .ok (.putfield 84, 3) := by decide +kernel
theorem dX9_passAll_12 : decode cX9_passAll 12 = .ok (.aload_n 0, 1) := by decide +kernel
theorem dX9_passAll_13 : decode cX9_passAll 13 = .ok (.aload_n 0, 1) := by decide +kernel
theorem dX9_passAll_14 : decode cX9_passAll 14 = .ok (.aload_n 0, 1) := by decide +kernel
theorem dX9_passAll_15 : decode cX9_passAll 15 = .ok (.getfield 98, 3) := by decide +kernel
theorem dX9_passAll_18 : decode cX9_passAll 18 = .ok (.invokevirtual 277, 3) := by decide +kernel
theorem dX9_passAll_21 : decode cX9_passAll 21 = .ok (.putfield 98, 3) := by decide +kernel
theorem dX9_passAll_24 : decode cX9_passAll 24 = .ok (.iconst 0, 1) := by decide +kernel
theorem dX9_passAll_25 : decode cX9_passAll 25 = .ok (.istore_n 1, 1) := by decide +kernel
theorem dX9_passAll_26 : decode cX9_passAll 26 = .ok (.iload_n 1, 1) := by decide +kernel
theorem dX9_passAll_27 : decode cX9_passAll 27 = .ok (.bipush 28, 2) := by decide +kernel
theorem dX9_passAll_29 : decode cX9_passAll 29 = .ok (.if_icmp .ge 25, 3) := by decide +kernel
theorem dX9_passAll_32 : decode cX9_passAll 32 = .ok (.aload_n 0, 1) := by decide +kernel
theorem dX9_passAll_33 : decode cX9_passAll 33 = .ok (.getfield 7, 3) := by decide +kernel
theorem dX9_passAll_36 : decode cX9_passAll 36 = .ok (.iload_n 1, 1) := by decide +kernel
theorem dX9_passAll_37 : decode cX9_passAll 37 = .ok (.aload_n 0, 1) := by decide +kernel
theorem dX9_passAll_38 : decode cX9_passAll 38 = .ok (.aload_n 0, 1) := by decide +kernel
theorem dX9_passAll_39 : decode cX9_passAll 39 = .ok (.getfield 7, 3) := by decide +kernel
theorem dX9_passAll_42 : decode cX9_passAll 42 = .ok (.iload_n 1, 1) := by decide +kernel
theorem dX9_passAll_43 : decode cX9_passAll 43 = .ok (.iaload, 1) := by decide +kernel
theorem dX9_passAll_44 : decode cX9_passAll 44 = .ok (.invokevirtual 277, 3) := by decide +kernel
theorem dX9_passAll_47 : decode cX9_passAll 47 = .ok (.iastore, 1) := by decide +kernel
theorem dX9_passAll_48 : decode cX9_passAll 48 = .ok (.iinc 1 1, 3) := by decide +kernel
theorem dX9_passAll_51 : decode cX9_passAll 51 = .ok (.goto (-25), 3) := by decide +kernel
theorem dX9_passAll_54 : decode cX9_passAll 54 = .ok (.iconst 0, 1) := by decide +kernel
theorem dX9_passAll_55 : decode cX9_passAll 55 = .ok (.istore_n 1, 1) := by decide +kernel
theorem dX9_passAll_56 : decode cX9_passAll 56 = .ok (.iload_n 1, 1) := by decide +kernel
theorem dX9_passAll_57 : decode cX9_passAll 57 = .ok (.bipush 7, 2) := by decide +kernel
theorem dX9_passAll_59 : decode cX9_passAll 59 = .ok (.if_icmp .ge 41, 3) := by decide +kernel
theorem dX9_passAll_62 : decode cX9_passAll 62 = .ok (.aload_n 0, 1) := by decide +kernel
theorem dX9_passAll_63 : decode cX9_passAll 63 = .ok (.getfield 13, 3) := by decide +kernel
theorem dX9_passAll_66 : decode cX9_passAll 66 = .ok (.iload_n 1, 1) := by decide +kernel
theorem dX9_passAll_67 : decode cX9_passAll 67 = .ok (.aload_n 0, 1) := by decide +kernel
theorem dX9_passAll_68 : decode cX9_passAll 68 = .ok (.aload_n 0, 1) := by decide +kernel
theorem dX9_passAll_69 : decode cX9_passAll 69 = .ok (.getfield 13, 3) := by decide +kernel
theorem dX9_passAll_72 : decode cX9_passAll 72 = .ok (.iload_n 1, 1) := by decide +kernel
theorem dX9_passAll_73 : decode cX9_passAll 73 = .ok (.iaload, 1) := by decide +kernel
theorem dX9_passAll_74 : decode cX9_passAll 74 = .ok (.invokevirtual 277, 3) := by decide +kernel
theorem dX9_passAll_77 : decode cX9_passAll 77 = .ok (.iastore, 1) := by decide +kernel
theorem dX9_passAll_78 : decode cX9_passAll 78 = .ok (.aload_n 0, 1) := by decide +kernel
theorem dX9_passAll_79 : decode cX9_passAll 79 = .ok (.getfield 16, 3) := by decide +kernel
theorem dX9_passAll_82 : decode cX9_passAll 82 = .ok (.iload_n 1, 1) := by decide +kernel
theorem dX9_passAll_83 : decode cX9_passAll 83 = .ok (.aload_n 0, 1) := by decide +kernel
theorem dX9_passAll_84 : decode cX9_passAll 84 = .ok (.aload_n 0, 1) := by decide +kernel
theorem dX9_passAll_85 : decode cX9_passAll 85 = .ok (.getfield 16, 3) := by decide +kernel
theorem dX9_passAll_88 : decode cX9_passAll 88 = .ok (.iload_n 1, 1) := by decide +kernel
theorem dX9_passAll_89 : decode cX9_passAll 89 = .ok (.iaload, 1) := by decide +kernel
theorem dX9_passAll_90 : decode cX9_passAll 90 = .ok (.invokevirtual 277, 3) := by decide +kernel
theorem dX9_passAll_93 : decode cX9_passAll 93 = .ok (.iastore, 1) := by decide +kernel
theorem dX9_passAll_94 : decode cX9_passAll 94 = .ok (.iinc 1 1, 3) := by decide +kernel
theorem dX9_passAll_97 : decode cX9_passAll 97 = .ok (.goto (-41), 3) := by decide +kernel
theorem dX9_passAll_100 : decode cX9_passAll 100 = .ok (.iconst 0, 1) := by decide +kernel
theorem dX9_passAll_101 : decode cX9_passAll 101 = .ok (.istore_n 1, 1) := by decide +kernel
theorem dX9_passAll_102 : decode cX9_passAll 102 = .ok (.iload_n 1, 1) := by decide +kernel
theorem dX9_passAll_103 : decode cX9_passAll 103 = .ok (.iconst 4, 1) := by decide +kernel
theorem dX9_passAll_104 : decode cX9_passAll 104 = .ok (.if_icmp .ge 73, 3) := by decide +kernel
theorem dX9_passAll_107 : decode cX9_passAll 107 = .ok (.aload_n 0, 1) := by decide +kernel
theorem dX9_passAll_108 : decode cX9_passAll 108 = .ok (.getfield 19, 3) := by decide +kernel
theorem dX9_passAll_111 : decode cX9_passAll 111 = .ok (.iload_n 1, 1) := by decide +kernel
theorem dX9_passAll_112 : decode cX9_passAll 112 = .ok (.aload_n 0, 1) := by decide +kernel
theorem dX9_passAll_113 : decode cX9_passAll 113 = .ok (.aload_n 0, 1) := by decide +kernel
theorem dX9_passAll_114 : decode cX9_passAll 114 = .ok (.getfield 19, 3) := by decide +kernel
theorem dX9_passAll_117 : decode cX9_passAll 117 = .ok (.iload_n 1, 1) := by decide +kernel
theorem dX9_passAll_118 : decode cX9_passAll 118 = .ok (.iaload, 1) := by decide +kernel
theorem dX9_passAll_119 : decode cX9_passAll 119 = .ok (.invokevirtual 277, 3) := by decide +kernel
theorem dX9_passAll_122 : decode cX9_passAll 122 = .ok (.iastore, 1) := by decide +kernel
theorem dX9_passAll_123 : decode cX9_passAll 123 = .ok (.aload_n 0, 1) := by decide +kernel
theorem dX9_passAll_124 : decode cX9_passAll 124 = .ok (.getfield 22, 3) := by decide +kernel
theorem dX9_passAll_127 : decode cX9_passAll 127 = .ok (.iload_n 1, 1) := by decide +kernel
theorem dX9_passAll_128 : decode cX9_passAll 128 = .ok (.aload_n 0, 1) := by decide +kernel
theorem dX9_passAll_129 : decode cX9_passAll 129 = .ok (.aload_n 0, 1) := by decide +kernel
theorem dX9_passAll_130 : decode cX9_passAll 130 = .ok (.getfield 22, 3) := by decide +kernel
theorem dX9_passAll_133 : decode cX9_passAll 133 = .ok (.iload_n 1, 1) := by decide +kernel
theorem dX9_passAll_134 : decode cX9_passAll 134 = .ok (.iaload, 1) := by decide +kernel
theorem dX9_passAll_135 : decode cX9_passAll 135 = .ok (.invokevirtual 277, 3) := by decide +kernel
theorem dX9_passAll_138 : decode cX9_passAll 138 = .ok (.iastore, 1) := by decide +kernel
theorem dX9_passAll_139 : decode cX9_passAll 139 = .ok (.aload_n 0, 1) := by decide +kernel
theorem dX9_passAll_140 : decode cX9_passAll 140 = .ok (.getfield 25, 3) := by decide +kernel
theorem dX9_passAll_143 : decode cX9_passAll 143 = .ok (.iload_n 1, 1) := by decide +kernel
theorem dX9_passAll_144 : decode cX9_passAll 144 = .ok (.aload_n 0, 1) := by decide +kernel
theorem dX9_passAll_145 : decode cX9_passAll 145 = .ok (.aload_n 0, 1) := by decide +kernel
theorem dX9_passAll_146 : decode cX9_passAll 146 = .ok (.getfield 25, 3) := by decide +kernel
theorem dX9_passAll_149 : decode cX9_passAll 149 = .ok (.iload_n 1, 1) := by decide +kernel
theorem dX9_passAll_150 : decode cX9_passAll 150 = .ok (.iaload, 1) := by decide +kernel
theorem dX9_passAll_151 : decode cX9_passAll 151 = .ok (.invokevirtual 277, 3) := by decide +kernel
theorem dX9_passAll_154 : decode cX9_passAll 154 = .ok (.iastore, 1) := by decide +kernel
theorem dX9_passAll_155 : decode cX9_passAll 155 = .ok (.aload_n 0, 1) := by decide +kernel
theorem dX9_passAll_156 : decode cX9_passAll 156 = .ok (.getfield 28, 3) := by decide +kernel
theorem dX9_passAll_159 : decode cX9_passAll 159 = .ok (.iload_n 1, 1) := by decide +kernel
theorem dX9_passAll_160 : decode cX9_passAll 160 = .ok (.aload_n 0, 1) := by decide +kernel
theorem dX9_passAll_161 : decode cX9_passAll 161 = .ok (.aload_n 0, 1) := by decide +kernel
theorem dX9_passAll_162 : decode cX9_passAll 162 = .ok (.getfield 28, 3) := by decide +kernel
theorem dX9_passAll_165 : decode cX9_passAll 165 = .ok (.iload_n 1, 1) := by decide +kernel
theorem dX9_passAll_166 : decode cX9_passAll 166 = .ok (.iaload, 1) := by decide +kernel
theorem dX9_passAll_167 : decode cX9_passAll 167 = .ok (.invokevirtual 277, 3) := by decide +kernel
theorem dX9_passAll_170 : decode cX9_passAll 170 = .ok (.iastore, 1) := by decide +kernel
theorem dX9_passAll_171 : decode cX9_passAll 171 = .ok (.iinc 1 1, 3) := by decide +kernel
theorem dX9_passAll_174 : decode cX9_passAll 174 = .ok (.goto (-72), 3) := by decide +kernel
theorem dX9_passAll_177 : decode cX9_passAll 177 = .ok (.return_, 1) := by decide +kernel
theorem dX9_image_0 : decode cX9_image 0 = .ok (.iload_n 1, 1) := by decide +kernel
theorem dX9_image_1 : decode cX9_image 1 = .ok (.i2l, 1) := by decide +kernel
theorem dX9_image_2 : decode cX9_image 2 = .ok (.lconst 0, 1) := by decide +kernel
theorem dX9_image_3 : decode cX9_image 3 = .ok (.lconst 1, 1) := by decide +kernel
theorem dX9_image_4 : decode cX9_image 4 = .ok (.invokestatic 92, 3) := by decide +kernel
theorem dX9_image_7 : decode cX9_image 7 = .ok (.ifCond .ne 6, 3) := by decide +kernel
theorem dX9_image_10 : decode cX9_image 10 = .ok (.bipush (-2), 2) := by decide +kernel
theorem dX9_image_12 : decode cX9_image 12 = .ok (.ireturn, 1) := by decide +kernel
theorem dX9_image_13 : decode cX9_image 13 = .ok (.aload_n 0, 1) := by decide +kernel
theorem dX9_image_14 : decode cX9_image 14 = .ok (.bipush 80, 2) := by decide +kernel
theorem dX9_image_16 : decode cX9_image 16 = .ok (.iload_n 1, 1) := by decide +kernel
theorem dX9_image_17 : decode cX9_image 17 = .ok (.imul, 1) := by decide +kernel
theorem dX9_image_18 : decode cX9_image 18 = .ok (.putfield 274, 3) := by decide +kernel
theorem dX9_image_21 : decode cX9_image 21 = .ok (.aload_n 0, 1) := by decide +kernel
theorem dX9_image_22 : decode cX9_image 22 = .ok (.iconst 1, 1) := by decide +kernel
theorem dX9_image_23 : decode cX9_image 23 = .ok (.putfield 270, 3) := by decide +kernel
theorem dX9_image_26 : decode cX9_image 26 = .ok (.aload_n 0, 1) := by decide +kernel
theorem dX9_image_27 : decode cX9_image 27 = .ok (.invokevirtual 280, 3) := by decide +kernel
theorem dX9_image_30 : decode cX9_image 30 = .ok (.aload_n 0, 1) := by decide +kernel
theorem dX9_image_31 : decode cX9_image 31 = .ok (.getfield 76, 3) := by decide +kernel
theorem dX9_image_34 : decode cX9_image 34 = .ok (.iload_n 1, 1) := by decide +kernel
theorem dX9_image_35 : decode cX9_image 35 = .ok (.iconst 1, 1) := by decide +kernel
theorem dX9_image_36 : decode cX9_image 36 = .ok (.bastore, 1) := by decide +kernel
theorem dX9_image_37 : decode cX9_image 37 = .ok (.iconst 1, 1) := by decide +kernel
theorem dX9_image_38 : decode cX9_image 38 = .ok (.ireturn, 1) := by decide +kernel
theorem dX9_restore_0 : decode cX9_restore 0 = .ok (.iload_n 1, 1) := by decide +kernel
theorem dX9_restore_1 : decode cX9_restore 1 = .ok (.i2l, 1) := by decide +kernel
theorem dX9_restore_2 : decode cX9_restore 2 = .ok (.lconst 0, 1) := by decide +kernel
theorem dX9_restore_3 : decode cX9_restore 3 = .ok (.lconst 1, 1) := by decide +kernel
theorem dX9_restore_4 : decode cX9_restore 4 = .ok (.invokestatic 92, 3) := by decide +kernel
theorem dX9_restore_7 : decode cX9_restore 7 = .ok (.ifCond .ne 6, 3) := by decide +kernel
theorem dX9_restore_10 : decode cX9_restore 10 = .ok (.bipush (-2), 2) := by decide +kernel
theorem dX9_restore_12 : decode cX9_restore 12 = .ok (.ireturn, 1) := by decide +kernel
theorem dX9_restore_13 : decode cX9_restore 13 = .ok (.aload_n 0, 1) := by decide +kernel
theorem dX9_restore_14 : decode cX9_restore 14 = .ok (.getfield 76, 3) := by decide +kernel
theorem dX9_restore_17 : decode cX9_restore 17 = .ok (.iload_n 1, 1) := by decide +kernel
theorem dX9_restore_18 : decode cX9_restore 18 = .ok (.baload, 1) := by decide +kernel
theorem dX9_restore_19 : decode cX9_restore 19 = .ok (.ifCond .ne 6, 3) := by decide +kernel
theorem dX9_restore_22 : decode cX9_restore 22 = .ok (.bipush (-3), 2) := by decide +kernel
theorem dX9_restore_24 : decode cX9_restore 24 = .ok (.ireturn, 1) := by decide +kernel
theorem dX9_restore_25 : decode cX9_restore 25 = .ok (.aload_n 0, 1) := by decide +kernel
theorem dX9_restore_26 : decode cX9_restore 26 = .ok (.bipush 80, 2) := by decide +kernel
theorem dX9_restore_28 : decode cX9_restore 28 = .ok (.iload_n 1, 1) := by decide +kernel
theorem dX9_restore_29 : decode cX9_restore 29 = .ok (.imul, 1) := by decide +kernel
theorem dX9_restore_30 : decode cX9_restore 30 = .ok (.putfield 274, 3) := by decide +kernel
theorem dX9_restore_33 : decode cX9_restore 33 = .ok (.aload_n 0, 1) := by decide +kernel
theorem dX9_restore_34 : decode cX9_restore 34 = .ok (.iconst 0, 1) := by decide +kernel
theorem dX9_restore_35 : decode cX9_restore 35 = .ok (.putfield 270, 3) := by decide +kernel
theorem dX9_restore_38 : decode cX9_restore 38 = .ok (.aload_n 0, 1) := by decide +kernel
theorem dX9_restore_39 : decode cX9_restore 39 = .ok (.invokevirtual 280, 3) := by decide +kernel
theorem dX9_restore_42 : decode cX9_restore 42 = .ok (.iconst 1, 1) := by decide +kernel
theorem dX9_restore_43 : decode cX9_restore 43 = .ok (.ireturn, 1) := by decide +kernel
theorem dX9_toldOfThing_0 : decode cX9_toldOfThing 0 = .ok (.aload_n 0, 1) := by decide +kernel
theorem dX9_toldOfThing_1 : decode cX9_toldOfThing 1 = .ok (.iload_n 1, 1) := by decide +kernel
theorem dX9_toldOfThing_2 : decode cX9_toldOfThing 2 = .ok (.invokevirtual 103, 3) := by decide +kernel
theorem dX9_toldOfThing_5 : decode cX9_toldOfThing 5 = .ok (.ifCond .eq 8, 3) := by decide +kernel
theorem dX9_toldOfThing_8 : decode cX9_toldOfThing 8 = .ok (.iload_n 2, 1) := by decide +kernel
theorem dX9_toldOfThing_9 : decode cX9_toldOfThing 9 = .ok (.iconst 5, 1) := by decide +kernel
theorem dX9_toldOfThing_10 : decode cX9_toldOfThing 10 = .ok (.if_icmp .le 6, 3) := by decide +kernel
theorem dX9_toldOfThing_13 : decode cX9_toldOfThing 13 = .ok (.bipush (-2), 2) := by decide +kernel
theorem dX9_toldOfThing_15 : decode cX9_toldOfThing 15 = .ok (.ireturn, 1) := by decide +kernel
theorem dX9_toldOfThing_16 : decode cX9_toldOfThing 16 = .ok (.iload_n 2, 1) := by decide +kernel
theorem dX9_toldOfThing_17 : decode cX9_toldOfThing 17 = .ok (.iconst 4, 1) := by decide +kernel
theorem dX9_toldOfThing_18 : decode cX9_toldOfThing 18 = .ok (.if_icmp .ge 16, 3) := by decide +kernel
theorem dX9_toldOfThing_21 : decode cX9_toldOfThing 21 = .ok (.aload_n 0, 1) := by decide +kernel
theorem dX9_toldOfThing_22 : decode cX9_toldOfThing 22 = .ok (.getfield 7, 3) := by decide +kernel
theorem dX9_toldOfThing_25 : decode cX9_toldOfThing 25 = .ok (.iload_n 2, 1) := by decide +kernel
theorem dX9_toldOfThing_26 : decode cX9_toldOfThing 26 = .ok (.iload_n 1, 1) := by decide +kernel
theorem dX9_toldOfThing_27 : decode cX9_toldOfThing 27 = .ok (.invokestatic 88, 3) := by decide +kernel
theorem dX9_toldOfThing_30 : decode cX9_toldOfThing 30 = .ok (.iaload, 1) := by decide +kernel
theorem dX9_toldOfThing_31 : decode cX9_toldOfThing 31 = .ok (.goto 23, 3) := by decide +kernel
theorem dX9_toldOfThing_34 : decode cX9_toldOfThing 34 = .ok (.iload_n 2, 1) := by decide +kernel
theorem dX9_toldOfThing_35 : decode cX9_toldOfThing 35 = .ok (.iconst 4, 1) := by decide +kernel
theorem dX9_toldOfThing_36 : decode cX9_toldOfThing 36 = .ok (.if_icmp .ne 12, 3) := by decide +kernel
theorem dX9_toldOfThing_39 : decode cX9_toldOfThing 39 = .ok (.aload_n 0, 1) := by decide +kernel
theorem dX9_toldOfThing_40 : decode cX9_toldOfThing 40 = .ok (.getfield 13, 3) := by decide +kernel
theorem dX9_toldOfThing_43 : decode cX9_toldOfThing 43 = .ok (.iload_n 1, 1) := by decide +kernel
theorem dX9_toldOfThing_44 : decode cX9_toldOfThing 44 = .ok (.iaload, 1) := by decide +kernel
theorem dX9_toldOfThing_45 : decode cX9_toldOfThing 45 = .ok (.goto 9, 3) := by decide +kernel
theorem dX9_toldOfThing_48 : decode cX9_toldOfThing 48 = .ok (.aload_n 0, 1) := by decide +kernel
theorem dX9_toldOfThing_49 : decode cX9_toldOfThing 49 = .ok (.getfield 16, 3) := by decide +kernel
theorem dX9_toldOfThing_52 : decode cX9_toldOfThing 52 = .ok (.iload_n 1, 1) := by decide +kernel
theorem dX9_toldOfThing_53 : decode cX9_toldOfThing 53 = .ok (.iaload, 1) := by decide +kernel
theorem dX9_toldOfThing_54 : decode cX9_toldOfThing 54 = .ok (.ireturn, 1) := by decide +kernel
theorem dX9_toldOfGuest_0 : decode cX9_toldOfGuest 0 = .ok (.aload_n 0, 1) := by decide +kernel
theorem dX9_toldOfGuest_1 : decode cX9_toldOfGuest 1 = .ok (.iload_n 1, 1) := by decide +kernel
theorem dX9_toldOfGuest_2 : decode cX9_toldOfGuest 2 = .ok (.invokevirtual 113, 3) := by decide +kernel
theorem dX9_toldOfGuest_5 : decode cX9_toldOfGuest 5 = .ok (.ifCond .ne 6, 3) := by decide +kernel
theorem dX9_toldOfGuest_8 : decode cX9_toldOfGuest 8 = .ok (.bipush (-2), 2) := by decide +kernel
theorem dX9_toldOfGuest_10 : decode cX9_toldOfGuest 10 = .ok (.ireturn, 1) := by decide +kernel
theorem dX9_toldOfGuest_11 : decode cX9_toldOfGuest 11 = .ok (.iload_n 2, 1) := by decide +kernel
theorem dX9_toldOfGuest_12 : decode cX9_toldOfGuest 12 = .ok (.ifCond .ne 12, 3) := by decide +kernel
theorem dX9_toldOfGuest_15 : decode cX9_toldOfGuest 15 = .ok (.aload_n 0, 1) := by decide +kernel
theorem dX9_toldOfGuest_16 : decode cX9_toldOfGuest 16 = .ok (.getfield 19, 3) := by decide +kernel
theorem dX9_toldOfGuest_19 : decode cX9_toldOfGuest 19 = .ok (.iload_n 1, 1) := by decide +kernel
theorem dX9_toldOfGuest_20 : decode cX9_toldOfGuest 20 = .ok (.iaload, 1) := by decide +kernel
theorem dX9_toldOfGuest_21 : decode cX9_toldOfGuest 21 = .ok (.goto 47, 3) := by decide +kernel
theorem dX9_toldOfGuest_24 : decode cX9_toldOfGuest 24 = .ok (.iload_n 2, 1) := by decide +kernel
theorem dX9_toldOfGuest_25 : decode cX9_toldOfGuest 25 = .ok (.iconst 1, 1) := by decide +kernel
theorem dX9_toldOfGuest_26 : decode cX9_toldOfGuest 26 = .ok (.if_icmp .ne 12, 3) := by decide +kernel
theorem dX9_toldOfGuest_29 : decode cX9_toldOfGuest 29 = .ok (.aload_n 0, 1) := by decide +kernel
theorem dX9_toldOfGuest_30 : decode cX9_toldOfGuest 30 = .ok (.getfield 22, 3) := by decide +kernel
theorem dX9_toldOfGuest_33 : decode cX9_toldOfGuest 33 = .ok (.iload_n 1, 1) := by decide +kernel
theorem dX9_toldOfGuest_34 : decode cX9_toldOfGuest 34 = .ok (.iaload, 1) := by decide +kernel
theorem dX9_toldOfGuest_35 : decode cX9_toldOfGuest 35 = .ok (.goto 33, 3) := by decide +kernel
theorem dX9_toldOfGuest_38 : decode cX9_toldOfGuest 38 = .ok (.iload_n 2, 1) := by decide +kernel
theorem dX9_toldOfGuest_39 : decode cX9_toldOfGuest 39 = .ok (.iconst 2, 1) := by decide +kernel
theorem dX9_toldOfGuest_40 : decode cX9_toldOfGuest 40 = .ok (.if_icmp .ne 12, 3) := by decide +kernel
theorem dX9_toldOfGuest_43 : decode cX9_toldOfGuest 43 = .ok (.aload_n 0, 1) := by decide +kernel
theorem dX9_toldOfGuest_44 : decode cX9_toldOfGuest 44 = .ok (.getfield 25, 3) := by decide +kernel
theorem dX9_toldOfGuest_47 : decode cX9_toldOfGuest 47 = .ok (.iload_n 1, 1) := by decide +kernel
theorem dX9_toldOfGuest_48 : decode cX9_toldOfGuest 48 = .ok (.iaload, 1) := by decide +kernel
theorem dX9_toldOfGuest_49 : decode cX9_toldOfGuest 49 = .ok (.goto 19, 3) := by decide +kernel
theorem dX9_toldOfGuest_52 : decode cX9_toldOfGuest 52 = .ok (.iload_n 2, 1) := by decide +kernel
theorem dX9_toldOfGuest_53 : decode cX9_toldOfGuest 53 = .ok (.iconst 3, 1) := by decide +kernel
theorem dX9_toldOfGuest_54 : decode cX9_toldOfGuest 54 = .ok (.if_icmp .ne 12, 3) := by decide +kernel
theorem dX9_toldOfGuest_57 : decode cX9_toldOfGuest 57 = .ok (.aload_n 0, 1) := by decide +kernel
theorem dX9_toldOfGuest_58 : decode cX9_toldOfGuest 58 = .ok (.getfield 28, 3) := by decide +kernel
theorem dX9_toldOfGuest_61 : decode cX9_toldOfGuest 61 = .ok (.iload_n 1, 1) := by decide +kernel
theorem dX9_toldOfGuest_62 : decode cX9_toldOfGuest 62 = .ok (.iaload, 1) := by decide +kernel
theorem dX9_toldOfGuest_63 : decode cX9_toldOfGuest 63 = .ok (.goto 5, 3) := by decide +kernel
theorem dX9_toldOfGuest_66 : decode cX9_toldOfGuest 66 = .ok (.bipush (-2), 2) := by decide +kernel
theorem dX9_toldOfGuest_68 : decode cX9_toldOfGuest 68 = .ok (.ireturn, 1) := by decide +kernel
theorem dX9_told_0 : decode cX9_told 0 = .ok (.iload_n 1, 1) := by decide +kernel
theorem dX9_told_1 : decode cX9_told 1 = .ok (.i2l, 1) := by decide +kernel
theorem dX9_told_2 : decode cX9_told 2 = .ok (.ldc2_w 283, 3) := by decide +kernel
theorem dX9_told_5 : decode cX9_told 5 = .ok (.ldc2_w 285, 3) := by decide +kernel
theorem dX9_told_8 : decode cX9_told 8 = .ok (.invokestatic 92, 3) := by decide +kernel
theorem dX9_told_11 : decode cX9_told 11 = .ok (.ifCond .eq 18, 3) := by decide +kernel
theorem dX9_told_14 : decode cX9_told 14 = .ok (.aload_n 0, 1) := by decide +kernel
theorem dX9_told_15 : decode cX9_told 15 = .ok (.iload_n 1, 1) := by decide +kernel
theorem dX9_told_16 : decode cX9_told 16 = .ok (.bipush 100, 2) := by decide +kernel
theorem dX9_told_18 : decode cX9_told 18 = .ok (.idiv, 1) := by decide +kernel
theorem dX9_told_19 : decode cX9_told 19 = .ok (.iconst 1, 1) := by decide +kernel
theorem dX9_told_20 : decode cX9_told 20 = .ok (.isub, 1) := by decide +kernel
theorem dX9_told_21 : decode cX9_told 21 = .ok (.iload_n 1, 1) := by decide +kernel
theorem dX9_told_22 : decode cX9_told 22 = .ok (.bipush 100, 2) := by decide +kernel
theorem dX9_told_24 : decode cX9_told 24 = .ok (.irem, 1) := by decide +kernel
theorem dX9_told_25 : decode cX9_told 25 = .ok (.invokevirtual 287, 3) := by decide +kernel
theorem dX9_told_28 : decode cX9_told 28 = .ok (.ireturn, 1) := by decide +kernel
theorem dX9_told_29 : decode cX9_told 29 = .ok (.iload_n 1, 1) := by decide +kernel
theorem dX9_told_30 : decode cX9_told 30 = .ok (.i2l, 1) := by decide +kernel
theorem dX9_told_31 : decode cX9_told 31 = .ok (.ldc2_w 290, 3) := by decide +kernel
theorem dX9_told_34 : decode cX9_told 34 = .ok (.ldc2_w 292, 3) := by decide +kernel
theorem dX9_told_37 : decode cX9_told 37 = .ok (.invokestatic 92, 3) := by decide +kernel
theorem dX9_told_40 : decode cX9_told 40 = .ok (.ifCond .eq 18, 3) := by decide +kernel
theorem dX9_told_43 : decode cX9_told 43 = .ok (.aload_n 0, 1) := by decide +kernel
theorem dX9_told_44 : decode cX9_told 44 = .ok (.iload_n 1, 1) := by decide +kernel
theorem dX9_told_45 : decode cX9_told 45 = .ok (.bipush 10, 2) := by decide +kernel
theorem dX9_told_47 : decode cX9_told 47 = .ok (.idiv, 1) := by decide +kernel
theorem dX9_told_48 : decode cX9_told 48 = .ok (.iconst 1, 1) := by decide +kernel
theorem dX9_told_49 : decode cX9_told 49 = .ok (.isub, 1) := by decide +kernel
theorem dX9_told_50 : decode cX9_told 50 = .ok (.iload_n 1, 1) := by decide +kernel
theorem dX9_told_51 : decode cX9_told 51 = .ok (.bipush 10, 2) := by decide +kernel
theorem dX9_told_53 : decode cX9_told 53 = .ok (.irem, 1) := by decide +kernel
theorem dX9_told_54 : decode cX9_told 54 = .ok (.invokevirtual 294, 3) := by decide +kernel
theorem dX9_told_57 : decode cX9_told 57 = .ok (.ireturn, 1) := by decide +kernel
theorem dX9_told_58 : decode cX9_told 58 = .ok (.iload_n 1, 1) := by decide +kernel
theorem dX9_told_59 : decode cX9_told 59 = .ok (.ifCond .ne 10, 3) := by decide +kernel
theorem dX9_told_62 : decode cX9_told 62 = .ok (.aload_n 0, 1) := by decide +kernel
theorem dX9_told_63 : decode cX9_told 63 = .ok (.getfield 120, 3) := by decide +kernel
theorem dX9_told_66 : decode cX9_told 66 = .ok (.goto 41, 3) := by decide +kernel
theorem dX9_told_69 : decode cX9_told 69 = .ok (.iload_n 1, 1) := by decide +kernel
theorem dX9_told_70 : decode cX9_told 70 = .ok (.iconst 1, 1) := by decide +kernel
theorem dX9_told_71 : decode cX9_told 71 = .ok (.if_icmp .ne 10, 3) := by decide +kernel
theorem dX9_told_74 : decode cX9_told 74 = .ok (.aload_n 0, 1) := by decide +kernel
theorem dX9_told_75 : decode cX9_told 75 = .ok (.getfield 84, 3) := by decide +kernel
theorem dX9_told_78 : decode cX9_told 78 = .ok (.goto 29, 3) := by decide +kernel
theorem dX9_told_81 : decode cX9_told 81 = .ok (.iload_n 1, 1) := by decide +kernel
theorem dX9_told_82 : decode cX9_told 82 = .ok (.iconst 2, 1) := by decide +kernel
theorem dX9_told_83 : decode cX9_told 83 = .ok (.if_icmp .ne 10, 3) := by decide +kernel
theorem dX9_told_86 : decode cX9_told 86 = .ok (.aload_n 0, 1) := by decide +kernel
theorem dX9_told_87 : decode cX9_told 87 = .ok (.getfield 98, 3) := by decide +kernel
theorem dX9_told_90 : decode cX9_told 90 = .ok (.goto 17, 3) := by decide +kernel
theorem dX9_told_93 : decode cX9_told 93 = .ok (.iload_n 1, 1) := by decide +kernel
theorem dX9_told_94 : decode cX9_told 94 = .ok (.iconst 3, 1) := by decide +kernel
theorem dX9_told_95 : decode cX9_told 95 = .ok (.if_icmp .ne 10, 3) := by decide +kernel
theorem dX9_told_98 : decode cX9_told 98 = .ok (.aload_n 0, 1) := by decide +kernel
theorem dX9_told_99 : decode cX9_told 99 = .ok (.invokevirtual 181, 3) := by decide +kernel
theorem dX9_told_102 : decode cX9_told 102 = .ok (.goto 5, 3) := by decide +kernel
theorem dX9_told_105 : decode cX9_told 105 = .ok (.bipush (-2), 2) := by decide +kernel
theorem dX9_told_107 : decode cX9_told 107 = .ok (.ireturn, 1) := by decide +kernel
end
section
theorem dL_law_0 : decode cL_law 0 = .ok (.new 7, 3) := by decide +kernel
theorem dL_law_3 : decode cL_law 3 = .ok (.dup, 1) := by decide +kernel
theorem dL_law_4 : decode cL_law 4 = .ok (.invokespecial 9, 3) := by decide +kernel
theorem dL_law_7 : decode cL_law 7 = .ok (.astore_n 1, 1) := by decide +kernel
theorem dL_law_8 : decode cL_law 8 = .ok (.new 10, 3) := by decide +kernel
theorem dL_law_11 : decode cL_law 11 = .ok (.dup, 1) := by decide +kernel
theorem dL_law_12 : decode cL_law 12 = .ok (.invokespecial 12, 3) := by decide +kernel
theorem dL_law_15 : decode cL_law 15 = .ok (.astore_n 2, 1) := by decide +kernel
theorem dL_law_16 : decode cL_law 16 = .ok (.iconst 0, 1) := by decide +kernel
theorem dL_law_17 : decode cL_law 17 = .ok (.istore_n 3, 1) := by decide +kernel
theorem dL_law_18 : decode cL_law 18 = .ok (.iload_n 3, 1) := by decide +kernel
theorem dL_law_19 : decode cL_law 19 = .ok (.aload_n 0, 1) := by decide +kernel
theorem dL_law_20 : decode cL_law 20 = .ok (.arraylength, 1) := by decide +kernel
theorem dL_law_21 : decode cL_law 21 = .ok (.bipush 6, 2) := by decide +kernel
theorem dL_law_23 : decode cL_law 23 = .ok (.isub, 1) := by decide +kernel
theorem dL_law_24 : decode cL_law 24 = .ok (.if_icmp .gt 897, 3) := by decide +kernel
theorem dL_law_27 : decode cL_law 27 = .ok (.aload_n 0, 1) := by decide +kernel
theorem dL_law_28 : decode cL_law 28 = .ok (.iload_n 3, 1) := by decide +kernel
theorem dL_law_29 : decode cL_law 29 = .ok (.iaload, 1) := by decide +kernel
theorem dL_law_30 : decode cL_law 30 = .ok (.bipush 31, 2) := by decide +kernel
theorem dL_law_32 : decode cL_law 32 = .ok (.iand, 1) := by decide +kernel
theorem dL_law_33 : decode cL_law 33 = .ok (.tableswitch 882 0 27 #[127, 150, 193, 256, 279, 302, 315, 328, 351, 374, 407, 420, 453, 476, 509, 522, 555, 588, 621, 665, 688, 711, 724, 737, 770, 813, 836, 859], 127) := by decide +kernel
theorem dL_law_160 : decode cL_law 160 = .ok (.aload_n 1, 1) := by decide +kernel
theorem dL_law_161 : decode cL_law 161 = .ok (.aload_n 0, 1) := by decide +kernel
theorem dL_law_162 : decode cL_law 162 = .ok (.iload_n 3, 1) := by decide +kernel
theorem dL_law_163 : decode cL_law 163 = .ok (.iconst 1, 1) := by decide +kernel
theorem dL_law_164 : decode cL_law 164 = .ok (.iadd, 1) := by decide +kernel
theorem dL_law_165 : decode cL_law 165 = .ok (.iaload, 1) := by decide +kernel
theorem dL_law_166 : decode cL_law 166 = .ok (.invokevirtual 13, 3) := by decide +kernel
theorem dL_law_169 : decode cL_law 169 = .ok (.aload_n 2, 1) := by decide +kernel
theorem dL_law_170 : decode cL_law 170 = .ok (.aload_n 0, 1) := by decide +kernel
theorem dL_law_171 : decode cL_law 171 = .ok (.iload_n 3, 1) := by decide +kernel
theorem dL_law_172 : decode cL_law 172 = .ok (.iconst 1, 1) := by decide +kernel
theorem dL_law_173 : decode cL_law 173 = .ok (.iadd, 1) := by decide +kernel
theorem dL_law_174 : decode cL_law 174 = .ok (.iaload, 1) := by decide +kernel
theorem dL_law_175 : decode cL_law 175 = .ok (.invokevirtual 17, 3) := by decide +kernel
theorem dL_law_178 : decode cL_law 178 = .ok (.if_icmp .eq 737, 3) := by decide +kernel
theorem dL_law_181 : decode cL_law 181 = .ok (.iconst 0, 1) := by decide +kernel
theorem dL_law_182 : decode cL_law 182 = .ok (.ireturn, 1) := by decide +kernel
theorem dL_law_183 : decode cL_law 183 = .ok (.aload_n 1, 1) := by decide +kernel
theorem dL_law_184 : decode cL_law 184 = .ok (.aload_n 0, 1) := by decide +kernel
theorem dL_law_185 : decode cL_law 185 = .ok (.iload_n 3, 1) := by decide +kernel
theorem dL_law_186 : decode cL_law 186 = .ok (.iconst 1, 1) := by decide +kernel
theorem dL_law_187 : decode cL_law 187 = .ok (.iadd, 1) := by decide +kernel
theorem dL_law_188 : decode cL_law 188 = .ok (.iaload, 1) := by decide +kernel
theorem dL_law_189 : decode cL_law 189 = .ok (.aload_n 0, 1) := by decide +kernel
theorem dL_law_190 : decode cL_law 190 = .ok (.iload_n 3, 1) := by decide +kernel
theorem dL_law_191 : decode cL_law 191 = .ok (.iconst 2, 1) := by decide +kernel
theorem dL_law_192 : decode cL_law 192 = .ok (.iadd, 1) := by decide +kernel
theorem dL_law_193 : decode cL_law 193 = .ok (.iaload, 1) := by decide +kernel
theorem dL_law_194 : decode cL_law 194 = .ok (.aload_n 0, 1) := by decide +kernel
theorem dL_law_195 : decode cL_law 195 = .ok (.iload_n 3, 1) := by decide +kernel
theorem dL_law_196 : decode cL_law 196 = .ok (.iconst 3, 1) := by decide +kernel
theorem dL_law_197 : decode cL_law 197 = .ok (.iadd, 1) := by decide +kernel
theorem dL_law_198 : decode cL_law 198 = .ok (.iaload, 1) := by decide +kernel
theorem dL_law_199 : decode cL_law 199 = .ok (.invokevirtual 18, 3) := by decide +kernel
theorem dL_law_202 : decode cL_law 202 = .ok (.aload_n 2, 1) := by decide +kernel
theorem dL_law_203 : decode cL_law 203 = .ok (.aload_n 0, 1) := by decide +kernel
theorem dL_law_204 : decode cL_law 204 = .ok (.iload_n 3, 1) := by decide +kernel
theorem dL_law_205 : decode cL_law 205 = .ok (.iconst 1, 1) := by decide +kernel
theorem dL_law_206 : decode cL_law 206 = .ok (.iadd, 1) := by decide +kernel
theorem dL_law_207 : decode cL_law 207 = .ok (.iaload, 1) := by decide +kernel
theorem dL_law_208 : decode cL_law 208 = .ok (.aload_n 0, 1) := by decide +kernel
theorem dL_law_209 : decode cL_law 209 = .ok (.iload_n 3, 1) := by decide +kernel
theorem dL_law_210 : decode cL_law 210 = .ok (.iconst 2, 1) := by decide +kernel
theorem dL_law_211 : decode cL_law 211 = .ok (.iadd, 1) := by decide +kernel
theorem dL_law_212 : decode cL_law 212 = .ok (.iaload, 1) := by decide +kernel
theorem dL_law_213 : decode cL_law 213 = .ok (.aload_n 0, 1) := by decide +kernel
theorem dL_law_214 : decode cL_law 214 = .ok (.iload_n 3, 1) := by decide +kernel
theorem dL_law_215 : decode cL_law 215 = .ok (.iconst 3, 1) := by decide +kernel
theorem dL_law_216 : decode cL_law 216 = .ok (.iadd, 1) := by decide +kernel
theorem dL_law_217 : decode cL_law 217 = .ok (.iaload, 1) := by decide +kernel
theorem dL_law_218 : decode cL_law 218 = .ok (.invokevirtual 22, 3) := by decide +kernel
theorem dL_law_221 : decode cL_law 221 = .ok (.if_icmp .eq 694, 3) := by decide +kernel
theorem dL_law_224 : decode cL_law 224 = .ok (.iconst 0, 1) := by decide +kernel
theorem dL_law_225 : decode cL_law 225 = .ok (.ireturn, 1) := by decide +kernel
theorem dL_law_226 : decode cL_law 226 = .ok (.aload_n 1, 1) := by decide +kernel
theorem dL_law_227 : decode cL_law 227 = .ok (.aload_n 0, 1) := by decide +kernel
theorem dL_law_228 : decode cL_law 228 = .ok (.iload_n 3, 1) := by decide +kernel
theorem dL_law_229 : decode cL_law 229 = .ok (.iconst 1, 1) := by decide +kernel
theorem dL_law_230 : decode cL_law 230 = .ok (.iadd, 1) := by decide +kernel
theorem dL_law_231 : decode cL_law 231 = .ok (.iaload, 1) := by decide +kernel
theorem dL_law_232 : decode cL_law 232 = .ok (.aload_n 0, 1) := by decide +kernel
theorem dL_law_233 : decode cL_law 233 = .ok (.iload_n 3, 1) := by decide +kernel
theorem dL_law_234 : decode cL_law 234 = .ok (.iconst 2, 1) := by decide +kernel
theorem dL_law_235 : decode cL_law 235 = .ok (.iadd, 1) := by decide +kernel
theorem dL_law_236 : decode cL_law 236 = .ok (.iaload, 1) := by decide +kernel
theorem dL_law_237 : decode cL_law 237 = .ok (.aload_n 0, 1) := by decide +kernel
theorem dL_law_238 : decode cL_law 238 = .ok (.iload_n 3, 1) := by decide +kernel
theorem dL_law_239 : decode cL_law 239 = .ok (.iconst 3, 1) := by decide +kernel
theorem dL_law_240 : decode cL_law 240 = .ok (.iadd, 1) := by decide +kernel
theorem dL_law_241 : decode cL_law 241 = .ok (.iaload, 1) := by decide +kernel
theorem dL_law_242 : decode cL_law 242 = .ok (.aload_n 0, 1) := by decide +kernel
theorem dL_law_243 : decode cL_law 243 = .ok (.iload_n 3, 1) := by decide +kernel
theorem dL_law_244 : decode cL_law 244 = .ok (.iconst 4, 1) := by decide +kernel
theorem dL_law_245 : decode cL_law 245 = .ok (.iadd, 1) := by decide +kernel
theorem dL_law_246 : decode cL_law 246 = .ok (.iaload, 1) := by decide +kernel
theorem dL_law_247 : decode cL_law 247 = .ok (.aload_n 0, 1) := by decide +kernel
theorem dL_law_248 : decode cL_law 248 = .ok (.iload_n 3, 1) := by decide +kernel
theorem dL_law_249 : decode cL_law 249 = .ok (.iconst 5, 1) := by decide +kernel
theorem dL_law_250 : decode cL_law 250 = .ok (.iadd, 1) := by decide +kernel
theorem dL_law_251 : decode cL_law 251 = .ok (.iaload, 1) := by decide +kernel
theorem dL_law_252 : decode cL_law 252 = .ok (.invokevirtual 23, 3) := by decide +kernel
theorem dL_law_255 : decode cL_law 255 = .ok (.aload_n 2, 1) := by decide +kernel
theorem dL_law_256 : decode cL_law 256 = .ok (.aload_n 0, 1) := by decide +kernel
theorem dL_law_257 : decode cL_law 257 = .ok (.iload_n 3, 1) := by decide +kernel
theorem dL_law_258 : decode cL_law 258 = .ok (.iconst 1, 1) := by decide +kernel
theorem dL_law_259 : decode cL_law 259 = .ok (.iadd, 1) := by decide +kernel
theorem dL_law_260 : decode cL_law 260 = .ok (.iaload, 1) := by decide +kernel
theorem dL_law_261 : decode cL_law 261 = .ok (.aload_n 0, 1) := by decide +kernel
theorem dL_law_262 : decode cL_law 262 = .ok (.iload_n 3, 1) := by decide +kernel
theorem dL_law_263 : decode cL_law 263 = .ok (.iconst 2, 1) := by decide +kernel
theorem dL_law_264 : decode cL_law 264 = .ok (.iadd, 1) := by decide +kernel
theorem dL_law_265 : decode cL_law 265 = .ok (.iaload, 1) := by decide +kernel
theorem dL_law_266 : decode cL_law 266 = .ok (.aload_n 0, 1) := by decide +kernel
theorem dL_law_267 : decode cL_law 267 = .ok (.iload_n 3, 1) := by decide +kernel
theorem dL_law_268 : decode cL_law 268 = .ok (.iconst 3, 1) := by decide +kernel
theorem dL_law_269 : decode cL_law 269 = .ok (.iadd, 1) := by decide +kernel
theorem dL_law_270 : decode cL_law 270 = .ok (.iaload, 1) := by decide +kernel
theorem dL_law_271 : decode cL_law 271 = .ok (.aload_n 0, 1) := by decide +kernel
theorem dL_law_272 : decode cL_law 272 = .ok (.iload_n 3, 1) := by decide +kernel
theorem dL_law_273 : decode cL_law 273 = .ok (.iconst 4, 1) := by decide +kernel
theorem dL_law_274 : decode cL_law 274 = .ok (.iadd, 1) := by decide +kernel
theorem dL_law_275 : decode cL_law 275 = .ok (.iaload, 1) := by decide +kernel
theorem dL_law_276 : decode cL_law 276 = .ok (.aload_n 0, 1) := by decide +kernel
theorem dL_law_277 : decode cL_law 277 = .ok (.iload_n 3, 1) := by decide +kernel
theorem dL_law_278 : decode cL_law 278 = .ok (.iconst 5, 1) := by decide +kernel
theorem dL_law_279 : decode cL_law 279 = .ok (.iadd, 1) := by decide +kernel
theorem dL_law_280 : decode cL_law 280 = .ok (.iaload, 1) := by decide +kernel
theorem dL_law_281 : decode cL_law 281 = .ok (.invokevirtual 27, 3) := by decide +kernel
theorem dL_law_284 : decode cL_law 284 = .ok (.if_icmp .eq 631, 3) := by decide +kernel
theorem dL_law_287 : decode cL_law 287 = .ok (.iconst 0, 1) := by decide +kernel
theorem dL_law_288 : decode cL_law 288 = .ok (.ireturn, 1) := by decide +kernel
theorem dL_law_289 : decode cL_law 289 = .ok (.aload_n 1, 1) := by decide +kernel
theorem dL_law_290 : decode cL_law 290 = .ok (.aload_n 0, 1) := by decide +kernel
theorem dL_law_291 : decode cL_law 291 = .ok (.iload_n 3, 1) := by decide +kernel
theorem dL_law_292 : decode cL_law 292 = .ok (.iconst 1, 1) := by decide +kernel
theorem dL_law_293 : decode cL_law 293 = .ok (.iadd, 1) := by decide +kernel
theorem dL_law_294 : decode cL_law 294 = .ok (.iaload, 1) := by decide +kernel
theorem dL_law_295 : decode cL_law 295 = .ok (.invokevirtual 28, 3) := by decide +kernel
theorem dL_law_298 : decode cL_law 298 = .ok (.aload_n 2, 1) := by decide +kernel
theorem dL_law_299 : decode cL_law 299 = .ok (.aload_n 0, 1) := by decide +kernel
theorem dL_law_300 : decode cL_law 300 = .ok (.iload_n 3, 1) := by decide +kernel
theorem dL_law_301 : decode cL_law 301 = .ok (.iconst 1, 1) := by decide +kernel
theorem dL_law_302 : decode cL_law 302 = .ok (.iadd, 1) := by decide +kernel
theorem dL_law_303 : decode cL_law 303 = .ok (.iaload, 1) := by decide +kernel
theorem dL_law_304 : decode cL_law 304 = .ok (.invokevirtual 31, 3) := by decide +kernel
theorem dL_law_307 : decode cL_law 307 = .ok (.if_icmp .eq 608, 3) := by decide +kernel
theorem dL_law_310 : decode cL_law 310 = .ok (.iconst 0, 1) := by decide +kernel
theorem dL_law_311 : decode cL_law 311 = .ok (.ireturn, 1) := by decide +kernel
theorem dL_law_312 : decode cL_law 312 = .ok (.aload_n 1, 1) := by decide +kernel
theorem dL_law_313 : decode cL_law 313 = .ok (.aload_n 0, 1) := by decide +kernel
theorem dL_law_314 : decode cL_law 314 = .ok (.iload_n 3, 1) := by decide +kernel
theorem dL_law_315 : decode cL_law 315 = .ok (.iconst 1, 1) := by decide +kernel
theorem dL_law_316 : decode cL_law 316 = .ok (.iadd, 1) := by decide +kernel
theorem dL_law_317 : decode cL_law 317 = .ok (.iaload, 1) := by decide +kernel
theorem dL_law_318 : decode cL_law 318 = .ok (.invokevirtual 32, 3) := by decide +kernel
theorem dL_law_321 : decode cL_law 321 = .ok (.aload_n 2, 1) := by decide +kernel
theorem dL_law_322 : decode cL_law 322 = .ok (.aload_n 0, 1) := by decide +kernel
theorem dL_law_323 : decode cL_law 323 = .ok (.iload_n 3, 1) := by decide +kernel
theorem dL_law_324 : decode cL_law 324 = .ok (.iconst 1, 1) := by decide +kernel
theorem dL_law_325 : decode cL_law 325 = .ok (.iadd, 1) := by decide +kernel
theorem dL_law_326 : decode cL_law 326 = .ok (.iaload, 1) := by decide +kernel
theorem dL_law_327 : decode cL_law 327 = .ok (.invokevirtual 35, 3) := by decide +kernel
theorem dL_law_330 : decode cL_law 330 = .ok (.if_icmp .eq 585, 3) := by decide +kernel
theorem dL_law_333 : decode cL_law 333 = .ok (.iconst 0, 1) := by decide +kernel
theorem dL_law_334 : decode cL_law 334 = .ok (.ireturn, 1) := by decide +kernel
theorem dL_law_335 : decode cL_law 335 = .ok (.aload_n 1, 1) := by decide +kernel
theorem dL_law_336 : decode cL_law 336 = .ok (.invokevirtual 36, 3) := by decide +kernel
theorem dL_law_339 : decode cL_law 339 = .ok (.aload_n 2, 1) := by decide +kernel
theorem dL_law_340 : decode cL_law 340 = .ok (.invokevirtual 40, 3) := by decide +kernel
theorem dL_law_343 : decode cL_law 343 = .ok (.if_icmp .eq 572, 3) := by decide +kernel
theorem dL_law_346 : decode cL_law 346 = .ok (.iconst 0, 1) := by decide +kernel
theorem dL_law_347 : decode cL_law 347 = .ok (.ireturn, 1) := by decide +kernel
theorem dL_law_348 : decode cL_law 348 = .ok (.aload_n 1, 1) := by decide +kernel
theorem dL_law_349 : decode cL_law 349 = .ok (.invokevirtual 41, 3) := by decide +kernel
theorem dL_law_352 : decode cL_law 352 = .ok (.aload_n 2, 1) := by decide +kernel
theorem dL_law_353 : decode cL_law 353 = .ok (.invokevirtual 44, 3) := by decide +kernel
theorem dL_law_356 : decode cL_law 356 = .ok (.if_icmp .eq 559, 3) := by decide +kernel
theorem dL_law_359 : decode cL_law 359 = .ok (.iconst 0, 1) := by decide +kernel
theorem dL_law_360 : decode cL_law 360 = .ok (.ireturn, 1) := by decide +kernel
theorem dL_law_361 : decode cL_law 361 = .ok (.aload_n 1, 1) := by decide +kernel
theorem dL_law_362 : decode cL_law 362 = .ok (.aload_n 0, 1) := by decide +kernel
theorem dL_law_363 : decode cL_law 363 = .ok (.iload_n 3, 1) := by decide +kernel
theorem dL_law_364 : decode cL_law 364 = .ok (.iconst 1, 1) := by decide +kernel
theorem dL_law_365 : decode cL_law 365 = .ok (.iadd, 1) := by decide +kernel
theorem dL_law_366 : decode cL_law 366 = .ok (.iaload, 1) := by decide +kernel
theorem dL_law_367 : decode cL_law 367 = .ok (.invokevirtual 45, 3) := by decide +kernel
theorem dL_law_370 : decode cL_law 370 = .ok (.aload_n 2, 1) := by decide +kernel
theorem dL_law_371 : decode cL_law 371 = .ok (.aload_n 0, 1) := by decide +kernel
theorem dL_law_372 : decode cL_law 372 = .ok (.iload_n 3, 1) := by decide +kernel
theorem dL_law_373 : decode cL_law 373 = .ok (.iconst 1, 1) := by decide +kernel
theorem dL_law_374 : decode cL_law 374 = .ok (.iadd, 1) := by decide +kernel
theorem dL_law_375 : decode cL_law 375 = .ok (.iaload, 1) := by decide +kernel
theorem dL_law_376 : decode cL_law 376 = .ok (.invokevirtual 48, 3) := by decide +kernel
theorem dL_law_379 : decode cL_law 379 = .ok (.if_icmp .eq 536, 3) := by decide +kernel
theorem dL_law_382 : decode cL_law 382 = .ok (.iconst 0, 1) := by decide +kernel
theorem dL_law_383 : decode cL_law 383 = .ok (.ireturn, 1) := by decide +kernel
theorem dL_law_384 : decode cL_law 384 = .ok (.aload_n 1, 1) := by decide +kernel
theorem dL_law_385 : decode cL_law 385 = .ok (.aload_n 0, 1) := by decide +kernel
theorem dL_law_386 : decode cL_law 386 = .ok (.iload_n 3, 1) := by decide +kernel
theorem dL_law_387 : decode cL_law 387 = .ok (.iconst 1, 1) := by decide +kernel
theorem dL_law_388 : decode cL_law 388 = .ok (.iadd, 1) := by decide +kernel
theorem dL_law_389 : decode cL_law 389 = .ok (.iaload, 1) := by decide +kernel
theorem dL_law_390 : decode cL_law 390 = .ok (.invokevirtual 49, 3) := by decide +kernel
theorem dL_law_393 : decode cL_law 393 = .ok (.aload_n 2, 1) := by decide +kernel
theorem dL_law_394 : decode cL_law 394 = .ok (.aload_n 0, 1) := by decide +kernel
theorem dL_law_395 : decode cL_law 395 = .ok (.iload_n 3, 1) := by decide +kernel
theorem dL_law_396 : decode cL_law 396 = .ok (.iconst 1, 1) := by decide +kernel
theorem dL_law_397 : decode cL_law 397 = .ok (.iadd, 1) := by decide +kernel
theorem dL_law_398 : decode cL_law 398 = .ok (.iaload, 1) := by decide +kernel
theorem dL_law_399 : decode cL_law 399 = .ok (.invokevirtual 52, 3) := by decide +kernel
theorem dL_law_402 : decode cL_law 402 = .ok (.if_icmp .eq 513, 3) := by decide +kernel
theorem dL_law_405 : decode cL_law 405 = .ok (.iconst 0, 1) := by decide +kernel
theorem dL_law_406 : decode cL_law 406 = .ok (.ireturn, 1) := by decide +kernel
theorem dL_law_407 : decode cL_law 407 = .ok (.aload_n 1, 1) := by decide +kernel
theorem dL_law_408 : decode cL_law 408 = .ok (.aload_n 0, 1) := by decide +kernel
theorem dL_law_409 : decode cL_law 409 = .ok (.iload_n 3, 1) := by decide +kernel
theorem dL_law_410 : decode cL_law 410 = .ok (.iconst 1, 1) := by decide +kernel
theorem dL_law_411 : decode cL_law 411 = .ok (.iadd, 1) := by decide +kernel
theorem dL_law_412 : decode cL_law 412 = .ok (.iaload, 1) := by decide +kernel
theorem dL_law_413 : decode cL_law 413 = .ok (.aload_n 0, 1) := by decide +kernel
theorem dL_law_414 : decode cL_law 414 = .ok (.iload_n 3, 1) := by decide +kernel
theorem dL_law_415 : decode cL_law 415 = .ok (.iconst 2, 1) := by decide +kernel
theorem dL_law_416 : decode cL_law 416 = .ok (.iadd, 1) := by decide +kernel
theorem dL_law_417 : decode cL_law 417 = .ok (.iaload, 1) := by decide +kernel
theorem dL_law_418 : decode cL_law 418 = .ok (.invokevirtual 53, 3) := by decide +kernel
theorem dL_law_421 : decode cL_law 421 = .ok (.aload_n 2, 1) := by decide +kernel
theorem dL_law_422 : decode cL_law 422 = .ok (.aload_n 0, 1) := by decide +kernel
theorem dL_law_423 : decode cL_law 423 = .ok (.iload_n 3, 1) := by decide +kernel
theorem dL_law_424 : decode cL_law 424 = .ok (.iconst 1, 1) := by decide +kernel
theorem dL_law_425 : decode cL_law 425 = .ok (.iadd, 1) := by decide +kernel
theorem dL_law_426 : decode cL_law 426 = .ok (.iaload, 1) := by decide +kernel
theorem dL_law_427 : decode cL_law 427 = .ok (.aload_n 0, 1) := by decide +kernel
theorem dL_law_428 : decode cL_law 428 = .ok (.iload_n 3, 1) := by decide +kernel
theorem dL_law_429 : decode cL_law 429 = .ok (.iconst 2, 1) := by decide +kernel
theorem dL_law_430 : decode cL_law 430 = .ok (.iadd, 1) := by decide +kernel
theorem dL_law_431 : decode cL_law 431 = .ok (.iaload, 1) := by decide +kernel
theorem dL_law_432 : decode cL_law 432 = .ok (.invokevirtual 57, 3) := by decide +kernel
theorem dL_law_435 : decode cL_law 435 = .ok (.if_icmp .eq 480, 3) := by decide +kernel
theorem dL_law_438 : decode cL_law 438 = .ok (.iconst 0, 1) := by decide +kernel
theorem dL_law_439 : decode cL_law 439 = .ok (.ireturn, 1) := by decide +kernel
theorem dL_law_440 : decode cL_law 440 = .ok (.aload_n 1, 1) := by decide +kernel
theorem dL_law_441 : decode cL_law 441 = .ok (.invokevirtual 58, 3) := by decide +kernel
theorem dL_law_444 : decode cL_law 444 = .ok (.aload_n 2, 1) := by decide +kernel
theorem dL_law_445 : decode cL_law 445 = .ok (.invokevirtual 61, 3) := by decide +kernel
theorem dL_law_448 : decode cL_law 448 = .ok (.if_icmp .eq 467, 3) := by decide +kernel
theorem dL_law_451 : decode cL_law 451 = .ok (.iconst 0, 1) := by decide +kernel
theorem dL_law_452 : decode cL_law 452 = .ok (.ireturn, 1) := by decide +kernel
theorem dL_law_453 : decode cL_law 453 = .ok (.aload_n 1, 1) := by decide +kernel
theorem dL_law_454 : decode cL_law 454 = .ok (.aload_n 0, 1) := by decide +kernel
theorem dL_law_455 : decode cL_law 455 = .ok (.iload_n 3, 1) := by decide +kernel
theorem dL_law_456 : decode cL_law 456 = .ok (.iconst 1, 1) := by decide +kernel
theorem dL_law_457 : decode cL_law 457 = .ok (.iadd, 1) := by decide +kernel
theorem dL_law_458 : decode cL_law 458 = .ok (.iaload, 1) := by decide +kernel
theorem dL_law_459 : decode cL_law 459 = .ok (.aload_n 0, 1) := by decide +kernel
theorem dL_law_460 : decode cL_law 460 = .ok (.iload_n 3, 1) := by decide +kernel
theorem dL_law_461 : decode cL_law 461 = .ok (.iconst 2, 1) := by decide +kernel
theorem dL_law_462 : decode cL_law 462 = .ok (.iadd, 1) := by decide +kernel
theorem dL_law_463 : decode cL_law 463 = .ok (.iaload, 1) := by decide +kernel
theorem dL_law_464 : decode cL_law 464 = .ok (.invokevirtual 62, 3) := by decide +kernel
theorem dL_law_467 : decode cL_law 467 = .ok (.aload_n 2, 1) := by decide +kernel
theorem dL_law_468 : decode cL_law 468 = .ok (.aload_n 0, 1) := by decide +kernel
theorem dL_law_469 : decode cL_law 469 = .ok (.iload_n 3, 1) := by decide +kernel
theorem dL_law_470 : decode cL_law 470 = .ok (.iconst 1, 1) := by decide +kernel
theorem dL_law_471 : decode cL_law 471 = .ok (.iadd, 1) := by decide +kernel
theorem dL_law_472 : decode cL_law 472 = .ok (.iaload, 1) := by decide +kernel
theorem dL_law_473 : decode cL_law 473 = .ok (.aload_n 0, 1) := by decide +kernel
theorem dL_law_474 : decode cL_law 474 = .ok (.iload_n 3, 1) := by decide +kernel
theorem dL_law_475 : decode cL_law 475 = .ok (.iconst 2, 1) := by decide +kernel
theorem dL_law_476 : decode cL_law 476 = .ok (.iadd, 1) := by decide +kernel
theorem dL_law_477 : decode cL_law 477 = .ok (.iaload, 1) := by decide +kernel
theorem dL_law_478 : decode cL_law 478 = .ok (.invokevirtual 65, 3) := by decide +kernel
theorem dL_law_481 : decode cL_law 481 = .ok (.if_icmp .eq 434, 3) := by decide +kernel
theorem dL_law_484 : decode cL_law 484 = .ok (.iconst 0, 1) := by decide +kernel
theorem dL_law_485 : decode cL_law 485 = .ok (.ireturn, 1) := by decide +kernel
theorem dL_law_486 : decode cL_law 486 = .ok (.aload_n 1, 1) := by decide +kernel
theorem dL_law_487 : decode cL_law 487 = .ok (.aload_n 0, 1) := by decide +kernel
theorem dL_law_488 : decode cL_law 488 = .ok (.iload_n 3, 1) := by decide +kernel
theorem dL_law_489 : decode cL_law 489 = .ok (.iconst 1, 1) := by decide +kernel
theorem dL_law_490 : decode cL_law 490 = .ok (.iadd, 1) := by decide +kernel
theorem dL_law_491 : decode cL_law 491 = .ok (.iaload, 1) := by decide +kernel
theorem dL_law_492 : decode cL_law 492 = .ok (.invokevirtual 66, 3) := by decide +kernel
theorem dL_law_495 : decode cL_law 495 = .ok (.aload_n 2, 1) := by decide +kernel
theorem dL_law_496 : decode cL_law 496 = .ok (.aload_n 0, 1) := by decide +kernel
theorem dL_law_497 : decode cL_law 497 = .ok (.iload_n 3, 1) := by decide +kernel
theorem dL_law_498 : decode cL_law 498 = .ok (.iconst 1, 1) := by decide +kernel
theorem dL_law_499 : decode cL_law 499 = .ok (.iadd, 1) := by decide +kernel
theorem dL_law_500 : decode cL_law 500 = .ok (.iaload, 1) := by decide +kernel
theorem dL_law_501 : decode cL_law 501 = .ok (.invokevirtual 69, 3) := by decide +kernel
theorem dL_law_504 : decode cL_law 504 = .ok (.if_icmp .eq 411, 3) := by decide +kernel
theorem dL_law_507 : decode cL_law 507 = .ok (.iconst 0, 1) := by decide +kernel
theorem dL_law_508 : decode cL_law 508 = .ok (.ireturn, 1) := by decide +kernel
theorem dL_law_509 : decode cL_law 509 = .ok (.aload_n 1, 1) := by decide +kernel
theorem dL_law_510 : decode cL_law 510 = .ok (.aload_n 0, 1) := by decide +kernel
theorem dL_law_511 : decode cL_law 511 = .ok (.iload_n 3, 1) := by decide +kernel
theorem dL_law_512 : decode cL_law 512 = .ok (.iconst 1, 1) := by decide +kernel
theorem dL_law_513 : decode cL_law 513 = .ok (.iadd, 1) := by decide +kernel
theorem dL_law_514 : decode cL_law 514 = .ok (.iaload, 1) := by decide +kernel
theorem dL_law_515 : decode cL_law 515 = .ok (.aload_n 0, 1) := by decide +kernel
theorem dL_law_516 : decode cL_law 516 = .ok (.iload_n 3, 1) := by decide +kernel
theorem dL_law_517 : decode cL_law 517 = .ok (.iconst 2, 1) := by decide +kernel
theorem dL_law_518 : decode cL_law 518 = .ok (.iadd, 1) := by decide +kernel
theorem dL_law_519 : decode cL_law 519 = .ok (.iaload, 1) := by decide +kernel
theorem dL_law_520 : decode cL_law 520 = .ok (.invokevirtual 70, 3) := by decide +kernel
theorem dL_law_523 : decode cL_law 523 = .ok (.aload_n 2, 1) := by decide +kernel
theorem dL_law_524 : decode cL_law 524 = .ok (.aload_n 0, 1) := by decide +kernel
theorem dL_law_525 : decode cL_law 525 = .ok (.iload_n 3, 1) := by decide +kernel
theorem dL_law_526 : decode cL_law 526 = .ok (.iconst 1, 1) := by decide +kernel
theorem dL_law_527 : decode cL_law 527 = .ok (.iadd, 1) := by decide +kernel
theorem dL_law_528 : decode cL_law 528 = .ok (.iaload, 1) := by decide +kernel
theorem dL_law_529 : decode cL_law 529 = .ok (.aload_n 0, 1) := by decide +kernel
theorem dL_law_530 : decode cL_law 530 = .ok (.iload_n 3, 1) := by decide +kernel
theorem dL_law_531 : decode cL_law 531 = .ok (.iconst 2, 1) := by decide +kernel
theorem dL_law_532 : decode cL_law 532 = .ok (.iadd, 1) := by decide +kernel
theorem dL_law_533 : decode cL_law 533 = .ok (.iaload, 1) := by decide +kernel
theorem dL_law_534 : decode cL_law 534 = .ok (.invokevirtual 73, 3) := by decide +kernel
theorem dL_law_537 : decode cL_law 537 = .ok (.if_icmp .eq 378, 3) := by decide +kernel
theorem dL_law_540 : decode cL_law 540 = .ok (.iconst 0, 1) := by decide +kernel
theorem dL_law_541 : decode cL_law 541 = .ok (.ireturn, 1) := by decide +kernel
theorem dL_law_542 : decode cL_law 542 = .ok (.aload_n 1, 1) := by decide +kernel
theorem dL_law_543 : decode cL_law 543 = .ok (.invokevirtual 74, 3) := by decide +kernel
theorem dL_law_546 : decode cL_law 546 = .ok (.aload_n 2, 1) := by decide +kernel
theorem dL_law_547 : decode cL_law 547 = .ok (.invokevirtual 77, 3) := by decide +kernel
theorem dL_law_550 : decode cL_law 550 = .ok (.if_icmp .eq 365, 3) := by decide +kernel
theorem dL_law_553 : decode cL_law 553 = .ok (.iconst 0, 1) := by decide +kernel
theorem dL_law_554 : decode cL_law 554 = .ok (.ireturn, 1) := by decide +kernel
theorem dL_law_555 : decode cL_law 555 = .ok (.aload_n 1, 1) := by decide +kernel
theorem dL_law_556 : decode cL_law 556 = .ok (.aload_n 0, 1) := by decide +kernel
theorem dL_law_557 : decode cL_law 557 = .ok (.iload_n 3, 1) := by decide +kernel
theorem dL_law_558 : decode cL_law 558 = .ok (.iconst 1, 1) := by decide +kernel
theorem dL_law_559 : decode cL_law 559 = .ok (.iadd, 1) := by decide +kernel
theorem dL_law_560 : decode cL_law 560 = .ok (.iaload, 1) := by decide +kernel
theorem dL_law_561 : decode cL_law 561 = .ok (.aload_n 0, 1) := by decide +kernel
theorem dL_law_562 : decode cL_law 562 = .ok (.iload_n 3, 1) := by decide +kernel
theorem dL_law_563 : decode cL_law 563 = .ok (.iconst 2, 1) := by decide +kernel
theorem dL_law_564 : decode cL_law 564 = .ok (.iadd, 1) := by decide +kernel
theorem dL_law_565 : decode cL_law 565 = .ok (.iaload, 1) := by decide +kernel
theorem dL_law_566 : decode cL_law 566 = .ok (.invokevirtual 78, 3) := by decide +kernel
theorem dL_law_569 : decode cL_law 569 = .ok (.aload_n 2, 1) := by decide +kernel
theorem dL_law_570 : decode cL_law 570 = .ok (.aload_n 0, 1) := by decide +kernel
theorem dL_law_571 : decode cL_law 571 = .ok (.iload_n 3, 1) := by decide +kernel
theorem dL_law_572 : decode cL_law 572 = .ok (.iconst 1, 1) := by decide +kernel
theorem dL_law_573 : decode cL_law 573 = .ok (.iadd, 1) := by decide +kernel
theorem dL_law_574 : decode cL_law 574 = .ok (.iaload, 1) := by decide +kernel
theorem dL_law_575 : decode cL_law 575 = .ok (.aload_n 0, 1) := by decide +kernel
theorem dL_law_576 : decode cL_law 576 = .ok (.iload_n 3, 1) := by decide +kernel
theorem dL_law_577 : decode cL_law 577 = .ok (.iconst 2, 1) := by decide +kernel
theorem dL_law_578 : decode cL_law 578 = .ok (.iadd, 1) := by decide +kernel
theorem dL_law_579 : decode cL_law 579 = .ok (.iaload, 1) := by decide +kernel
theorem dL_law_580 : decode cL_law 580 = .ok (.invokevirtual 81, 3) := by decide +kernel
theorem dL_law_583 : decode cL_law 583 = .ok (.if_icmp .eq 332, 3) := by decide +kernel
theorem dL_law_586 : decode cL_law 586 = .ok (.iconst 0, 1) := by decide +kernel
theorem dL_law_587 : decode cL_law 587 = .ok (.ireturn, 1) := by decide +kernel
theorem dL_law_588 : decode cL_law 588 = .ok (.aload_n 1, 1) := by decide +kernel
theorem dL_law_589 : decode cL_law 589 = .ok (.aload_n 0, 1) := by decide +kernel
theorem dL_law_590 : decode cL_law 590 = .ok (.iload_n 3, 1) := by decide +kernel
theorem dL_law_591 : decode cL_law 591 = .ok (.iconst 1, 1) := by decide +kernel
theorem dL_law_592 : decode cL_law 592 = .ok (.iadd, 1) := by decide +kernel
theorem dL_law_593 : decode cL_law 593 = .ok (.iaload, 1) := by decide +kernel
theorem dL_law_594 : decode cL_law 594 = .ok (.aload_n 0, 1) := by decide +kernel
theorem dL_law_595 : decode cL_law 595 = .ok (.iload_n 3, 1) := by decide +kernel
theorem dL_law_596 : decode cL_law 596 = .ok (.iconst 2, 1) := by decide +kernel
theorem dL_law_597 : decode cL_law 597 = .ok (.iadd, 1) := by decide +kernel
theorem dL_law_598 : decode cL_law 598 = .ok (.iaload, 1) := by decide +kernel
theorem dL_law_599 : decode cL_law 599 = .ok (.invokevirtual 82, 3) := by decide +kernel
theorem dL_law_602 : decode cL_law 602 = .ok (.aload_n 2, 1) := by decide +kernel
theorem dL_law_603 : decode cL_law 603 = .ok (.aload_n 0, 1) := by decide +kernel
theorem dL_law_604 : decode cL_law 604 = .ok (.iload_n 3, 1) := by decide +kernel
theorem dL_law_605 : decode cL_law 605 = .ok (.iconst 1, 1) := by decide +kernel
theorem dL_law_606 : decode cL_law 606 = .ok (.iadd, 1) := by decide +kernel
theorem dL_law_607 : decode cL_law 607 = .ok (.iaload, 1) := by decide +kernel
theorem dL_law_608 : decode cL_law 608 = .ok (.aload_n 0, 1) := by decide +kernel
theorem dL_law_609 : decode cL_law 609 = .ok (.iload_n 3, 1) := by decide +kernel
theorem dL_law_610 : decode cL_law 610 = .ok (.iconst 2, 1) := by decide +kernel
theorem dL_law_611 : decode cL_law 611 = .ok (.iadd, 1) := by decide +kernel
theorem dL_law_612 : decode cL_law 612 = .ok (.iaload, 1) := by decide +kernel
theorem dL_law_613 : decode cL_law 613 = .ok (.invokevirtual 85, 3) := by decide +kernel
theorem dL_law_616 : decode cL_law 616 = .ok (.if_icmp .eq 299, 3) := by decide +kernel
theorem dL_law_619 : decode cL_law 619 = .ok (.iconst 0, 1) := by decide +kernel
theorem dL_law_620 : decode cL_law 620 = .ok (.ireturn, 1) := by decide +kernel
theorem dL_law_621 : decode cL_law 621 = .ok (.aload_n 1, 1) := by decide +kernel
theorem dL_law_622 : decode cL_law 622 = .ok (.aload_n 0, 1) := by decide +kernel
theorem dL_law_623 : decode cL_law 623 = .ok (.iload_n 3, 1) := by decide +kernel
theorem dL_law_624 : decode cL_law 624 = .ok (.iconst 1, 1) := by decide +kernel
theorem dL_law_625 : decode cL_law 625 = .ok (.iadd, 1) := by decide +kernel
theorem dL_law_626 : decode cL_law 626 = .ok (.iaload, 1) := by decide +kernel
theorem dL_law_627 : decode cL_law 627 = .ok (.aload_n 0, 1) := by decide +kernel
theorem dL_law_628 : decode cL_law 628 = .ok (.iload_n 3, 1) := by decide +kernel
theorem dL_law_629 : decode cL_law 629 = .ok (.iconst 2, 1) := by decide +kernel
theorem dL_law_630 : decode cL_law 630 = .ok (.iadd, 1) := by decide +kernel
theorem dL_law_631 : decode cL_law 631 = .ok (.iaload, 1) := by decide +kernel
theorem dL_law_632 : decode cL_law 632 = .ok (.invokevirtual 86, 3) := by decide +kernel
theorem dL_law_635 : decode cL_law 635 = .ok (.aload_n 2, 1) := by decide +kernel
theorem dL_law_636 : decode cL_law 636 = .ok (.aload_n 0, 1) := by decide +kernel
theorem dL_law_637 : decode cL_law 637 = .ok (.iload_n 3, 1) := by decide +kernel
theorem dL_law_638 : decode cL_law 638 = .ok (.iconst 1, 1) := by decide +kernel
theorem dL_law_639 : decode cL_law 639 = .ok (.iadd, 1) := by decide +kernel
theorem dL_law_640 : decode cL_law 640 = .ok (.iaload, 1) := by decide +kernel
theorem dL_law_641 : decode cL_law 641 = .ok (.aload_n 0, 1) := by decide +kernel
theorem dL_law_642 : decode cL_law 642 = .ok (.iload_n 3, 1) := by decide +kernel
theorem dL_law_643 : decode cL_law 643 = .ok (.iconst 2, 1) := by decide +kernel
theorem dL_law_644 : decode cL_law 644 = .ok (.iadd, 1) := by decide +kernel
theorem dL_law_645 : decode cL_law 645 = .ok (.iaload, 1) := by decide +kernel
theorem dL_law_646 : decode cL_law 646 = .ok (.invokevirtual 89, 3) := by decide +kernel
theorem dL_law_649 : decode cL_law 649 = .ok (.if_icmp .eq 266, 3) := by decide +kernel
theorem dL_law_652 : decode cL_law 652 = .ok (.iconst 0, 1) := by decide +kernel
theorem dL_law_653 : decode cL_law 653 = .ok (.ireturn, 1) := by decide +kernel
theorem dL_law_654 : decode cL_law 654 = .ok (.aload_n 1, 1) := by decide +kernel
theorem dL_law_655 : decode cL_law 655 = .ok (.aload_n 0, 1) := by decide +kernel
theorem dL_law_656 : decode cL_law 656 = .ok (.iload_n 3, 1) := by decide +kernel
theorem dL_law_657 : decode cL_law 657 = .ok (.iconst 1, 1) := by decide +kernel
theorem dL_law_658 : decode cL_law 658 = .ok (.iadd, 1) := by decide +kernel
theorem dL_law_659 : decode cL_law 659 = .ok (.iaload, 1) := by decide +kernel
theorem dL_law_660 : decode cL_law 660 = .ok (.aload_n 0, 1) := by decide +kernel
theorem dL_law_661 : decode cL_law 661 = .ok (.iload_n 3, 1) := by decide +kernel
theorem dL_law_662 : decode cL_law 662 = .ok (.iconst 2, 1) := by decide +kernel
theorem dL_law_663 : decode cL_law 663 = .ok (.iadd, 1) := by decide +kernel
theorem dL_law_664 : decode cL_law 664 = .ok (.iaload, 1) := by decide +kernel
theorem dL_law_665 : decode cL_law 665 = .ok (.aload_n 0, 1) := by decide +kernel
theorem dL_law_666 : decode cL_law 666 = .ok (.iload_n 3, 1) := by decide +kernel
theorem dL_law_667 : decode cL_law 667 = .ok (.iconst 3, 1) := by decide +kernel
theorem dL_law_668 : decode cL_law 668 = .ok (.iadd, 1) := by decide +kernel
theorem dL_law_669 : decode cL_law 669 = .ok (.iaload, 1) := by decide +kernel
theorem dL_law_670 : decode cL_law 670 = .ok (.invokevirtual 90, 3) := by decide +kernel
theorem dL_law_673 : decode cL_law 673 = .ok (.aload_n 2, 1) := by decide +kernel
theorem dL_law_674 : decode cL_law 674 = .ok (.aload_n 0, 1) := by decide +kernel
theorem dL_law_675 : decode cL_law 675 = .ok (.iload_n 3, 1) := by decide +kernel
theorem dL_law_676 : decode cL_law 676 = .ok (.iconst 1, 1) := by decide +kernel
theorem dL_law_677 : decode cL_law 677 = .ok (.iadd, 1) := by decide +kernel
theorem dL_law_678 : decode cL_law 678 = .ok (.iaload, 1) := by decide +kernel
theorem dL_law_679 : decode cL_law 679 = .ok (.aload_n 0, 1) := by decide +kernel
theorem dL_law_680 : decode cL_law 680 = .ok (.iload_n 3, 1) := by decide +kernel
theorem dL_law_681 : decode cL_law 681 = .ok (.iconst 2, 1) := by decide +kernel
theorem dL_law_682 : decode cL_law 682 = .ok (.iadd, 1) := by decide +kernel
theorem dL_law_683 : decode cL_law 683 = .ok (.iaload, 1) := by decide +kernel
theorem dL_law_684 : decode cL_law 684 = .ok (.aload_n 0, 1) := by decide +kernel
theorem dL_law_685 : decode cL_law 685 = .ok (.iload_n 3, 1) := by decide +kernel
theorem dL_law_686 : decode cL_law 686 = .ok (.iconst 3, 1) := by decide +kernel
theorem dL_law_687 : decode cL_law 687 = .ok (.iadd, 1) := by decide +kernel
theorem dL_law_688 : decode cL_law 688 = .ok (.iaload, 1) := by decide +kernel
theorem dL_law_689 : decode cL_law 689 = .ok (.invokevirtual 94, 3) := by decide +kernel
theorem dL_law_692 : decode cL_law 692 = .ok (.lcmp, 1) := by decide +kernel
theorem dL_law_693 : decode cL_law 693 = .ok (.ifCond .eq 222, 3) := by decide +kernel
theorem dL_law_696 : decode cL_law 696 = .ok (.iconst 0, 1) := by decide +kernel
theorem dL_law_697 : decode cL_law 697 = .ok (.ireturn, 1) := by decide +kernel
theorem dL_law_698 : decode cL_law 698 = .ok (.aload_n 1, 1) := by decide +kernel
theorem dL_law_699 : decode cL_law 699 = .ok (.aload_n 0, 1) := by decide +kernel
theorem dL_law_700 : decode cL_law 700 = .ok (.iload_n 3, 1) := by decide +kernel
theorem dL_law_701 : decode cL_law 701 = .ok (.iconst 1, 1) := by decide +kernel
theorem dL_law_702 : decode cL_law 702 = .ok (.iadd, 1) := by decide +kernel
theorem dL_law_703 : decode cL_law 703 = .ok (.iaload, 1) := by decide +kernel
theorem dL_law_704 : decode cL_law 704 = .ok (.invokevirtual 95, 3) := by decide +kernel
theorem dL_law_707 : decode cL_law 707 = .ok (.aload_n 2, 1) := by decide +kernel
theorem dL_law_708 : decode cL_law 708 = .ok (.aload_n 0, 1) := by decide +kernel
theorem dL_law_709 : decode cL_law 709 = .ok (.iload_n 3, 1) := by decide +kernel
theorem dL_law_710 : decode cL_law 710 = .ok (.iconst 1, 1) := by decide +kernel
theorem dL_law_711 : decode cL_law 711 = .ok (.iadd, 1) := by decide +kernel
theorem dL_law_712 : decode cL_law 712 = .ok (.iaload, 1) := by decide +kernel
theorem dL_law_713 : decode cL_law 713 = .ok (.invokevirtual 98, 3) := by decide +kernel
theorem dL_law_716 : decode cL_law 716 = .ok (.if_icmp .eq 199, 3) := by decide +kernel
theorem dL_law_719 : decode cL_law 719 = .ok (.iconst 0, 1) := by decide +kernel
theorem dL_law_720 : decode cL_law 720 = .ok (.ireturn, 1) := by decide +kernel
theorem dL_law_721 : decode cL_law 721 = .ok (.aload_n 1, 1) := by decide +kernel
theorem dL_law_722 : decode cL_law 722 = .ok (.aload_n 0, 1) := by decide +kernel
theorem dL_law_723 : decode cL_law 723 = .ok (.iload_n 3, 1) := by decide +kernel
theorem dL_law_724 : decode cL_law 724 = .ok (.iconst 1, 1) := by decide +kernel
theorem dL_law_725 : decode cL_law 725 = .ok (.iadd, 1) := by decide +kernel
theorem dL_law_726 : decode cL_law 726 = .ok (.iaload, 1) := by decide +kernel
theorem dL_law_727 : decode cL_law 727 = .ok (.invokevirtual 99, 3) := by decide +kernel
theorem dL_law_730 : decode cL_law 730 = .ok (.aload_n 2, 1) := by decide +kernel
theorem dL_law_731 : decode cL_law 731 = .ok (.aload_n 0, 1) := by decide +kernel
theorem dL_law_732 : decode cL_law 732 = .ok (.iload_n 3, 1) := by decide +kernel
theorem dL_law_733 : decode cL_law 733 = .ok (.iconst 1, 1) := by decide +kernel
theorem dL_law_734 : decode cL_law 734 = .ok (.iadd, 1) := by decide +kernel
theorem dL_law_735 : decode cL_law 735 = .ok (.iaload, 1) := by decide +kernel
theorem dL_law_736 : decode cL_law 736 = .ok (.invokevirtual 102, 3) := by decide +kernel
theorem dL_law_739 : decode cL_law 739 = .ok (.if_icmp .eq 176, 3) := by decide +kernel
theorem dL_law_742 : decode cL_law 742 = .ok (.iconst 0, 1) := by decide +kernel
theorem dL_law_743 : decode cL_law 743 = .ok (.ireturn, 1) := by decide +kernel
theorem dL_law_744 : decode cL_law 744 = .ok (.aload_n 1, 1) := by decide +kernel
theorem dL_law_745 : decode cL_law 745 = .ok (.invokevirtual 103, 3) := by decide +kernel
theorem dL_law_748 : decode cL_law 748 = .ok (.aload_n 2, 1) := by decide +kernel
theorem dL_law_749 : decode cL_law 749 = .ok (.invokevirtual 106, 3) := by decide +kernel
theorem dL_law_752 : decode cL_law 752 = .ok (.if_icmp .eq 163, 3) := by decide +kernel
theorem dL_law_755 : decode cL_law 755 = .ok (.iconst 0, 1) := by decide +kernel
theorem dL_law_756 : decode cL_law 756 = .ok (.ireturn, 1) := by decide +kernel
theorem dL_law_757 : decode cL_law 757 = .ok (.aload_n 1, 1) := by decide +kernel
theorem dL_law_758 : decode cL_law 758 = .ok (.invokevirtual 107, 3) := by decide +kernel
theorem dL_law_761 : decode cL_law 761 = .ok (.aload_n 2, 1) := by decide +kernel
theorem dL_law_762 : decode cL_law 762 = .ok (.invokevirtual 110, 3) := by decide +kernel
theorem dL_law_765 : decode cL_law 765 = .ok (.if_icmp .eq 150, 3) := by decide +kernel
theorem dL_law_768 : decode cL_law 768 = .ok (.iconst 0, 1) := by decide +kernel
theorem dL_law_769 : decode cL_law 769 = .ok (.ireturn, 1) := by decide +kernel
theorem dL_law_770 : decode cL_law 770 = .ok (.aload_n 1, 1) := by decide +kernel
theorem dL_law_771 : decode cL_law 771 = .ok (.aload_n 0, 1) := by decide +kernel
theorem dL_law_772 : decode cL_law 772 = .ok (.iload_n 3, 1) := by decide +kernel
theorem dL_law_773 : decode cL_law 773 = .ok (.iconst 1, 1) := by decide +kernel
theorem dL_law_774 : decode cL_law 774 = .ok (.iadd, 1) := by decide +kernel
theorem dL_law_775 : decode cL_law 775 = .ok (.iaload, 1) := by decide +kernel
theorem dL_law_776 : decode cL_law 776 = .ok (.aload_n 0, 1) := by decide +kernel
theorem dL_law_777 : decode cL_law 777 = .ok (.iload_n 3, 1) := by decide +kernel
theorem dL_law_778 : decode cL_law 778 = .ok (.iconst 2, 1) := by decide +kernel
theorem dL_law_779 : decode cL_law 779 = .ok (.iadd, 1) := by decide +kernel
theorem dL_law_780 : decode cL_law 780 = .ok (.iaload, 1) := by decide +kernel
theorem dL_law_781 : decode cL_law 781 = .ok (.invokevirtual 111, 3) := by decide +kernel
theorem dL_law_784 : decode cL_law 784 = .ok (.aload_n 2, 1) := by decide +kernel
theorem dL_law_785 : decode cL_law 785 = .ok (.aload_n 0, 1) := by decide +kernel
theorem dL_law_786 : decode cL_law 786 = .ok (.iload_n 3, 1) := by decide +kernel
theorem dL_law_787 : decode cL_law 787 = .ok (.iconst 1, 1) := by decide +kernel
theorem dL_law_788 : decode cL_law 788 = .ok (.iadd, 1) := by decide +kernel
theorem dL_law_789 : decode cL_law 789 = .ok (.iaload, 1) := by decide +kernel
theorem dL_law_790 : decode cL_law 790 = .ok (.aload_n 0, 1) := by decide +kernel
theorem dL_law_791 : decode cL_law 791 = .ok (.iload_n 3, 1) := by decide +kernel
theorem dL_law_792 : decode cL_law 792 = .ok (.iconst 2, 1) := by decide +kernel
theorem dL_law_793 : decode cL_law 793 = .ok (.iadd, 1) := by decide +kernel
theorem dL_law_794 : decode cL_law 794 = .ok (.iaload, 1) := by decide +kernel
theorem dL_law_795 : decode cL_law 795 = .ok (.invokevirtual 114, 3) := by decide +kernel
theorem dL_law_798 : decode cL_law 798 = .ok (.if_icmp .eq 117, 3) := by decide +kernel
theorem dL_law_801 : decode cL_law 801 = .ok (.iconst 0, 1) := by decide +kernel
theorem dL_law_802 : decode cL_law 802 = .ok (.ireturn, 1) := by decide +kernel
theorem dL_law_803 : decode cL_law 803 = .ok (.aload_n 1, 1) := by decide +kernel
theorem dL_law_804 : decode cL_law 804 = .ok (.aload_n 0, 1) := by decide +kernel
theorem dL_law_805 : decode cL_law 805 = .ok (.iload_n 3, 1) := by decide +kernel
theorem dL_law_806 : decode cL_law 806 = .ok (.iconst 1, 1) := by decide +kernel
theorem dL_law_807 : decode cL_law 807 = .ok (.iadd, 1) := by decide +kernel
theorem dL_law_808 : decode cL_law 808 = .ok (.iaload, 1) := by decide +kernel
theorem dL_law_809 : decode cL_law 809 = .ok (.aload_n 0, 1) := by decide +kernel
theorem dL_law_810 : decode cL_law 810 = .ok (.iload_n 3, 1) := by decide +kernel
theorem dL_law_811 : decode cL_law 811 = .ok (.iconst 2, 1) := by decide +kernel
theorem dL_law_812 : decode cL_law 812 = .ok (.iadd, 1) := by decide +kernel
theorem dL_law_813 : decode cL_law 813 = .ok (.iaload, 1) := by decide +kernel
theorem dL_law_814 : decode cL_law 814 = .ok (.aload_n 0, 1) := by decide +kernel
theorem dL_law_815 : decode cL_law 815 = .ok (.iload_n 3, 1) := by decide +kernel
theorem dL_law_816 : decode cL_law 816 = .ok (.iconst 3, 1) := by decide +kernel
theorem dL_law_817 : decode cL_law 817 = .ok (.iadd, 1) := by decide +kernel
theorem dL_law_818 : decode cL_law 818 = .ok (.iaload, 1) := by decide +kernel
theorem dL_law_819 : decode cL_law 819 = .ok (.invokevirtual 115, 3) := by decide +kernel
theorem dL_law_822 : decode cL_law 822 = .ok (.aload_n 2, 1) := by decide +kernel
theorem dL_law_823 : decode cL_law 823 = .ok (.aload_n 0, 1) := by decide +kernel
theorem dL_law_824 : decode cL_law 824 = .ok (.iload_n 3, 1) := by decide +kernel
theorem dL_law_825 : decode cL_law 825 = .ok (.iconst 1, 1) := by decide +kernel
theorem dL_law_826 : decode cL_law 826 = .ok (.iadd, 1) := by decide +kernel
theorem dL_law_827 : decode cL_law 827 = .ok (.iaload, 1) := by decide +kernel
theorem dL_law_828 : decode cL_law 828 = .ok (.aload_n 0, 1) := by decide +kernel
theorem dL_law_829 : decode cL_law 829 = .ok (.iload_n 3, 1) := by decide +kernel
theorem dL_law_830 : decode cL_law 830 = .ok (.iconst 2, 1) := by decide +kernel
theorem dL_law_831 : decode cL_law 831 = .ok (.iadd, 1) := by decide +kernel
theorem dL_law_832 : decode cL_law 832 = .ok (.iaload, 1) := by decide +kernel
theorem dL_law_833 : decode cL_law 833 = .ok (.aload_n 0, 1) := by decide +kernel
theorem dL_law_834 : decode cL_law 834 = .ok (.iload_n 3, 1) := by decide +kernel
theorem dL_law_835 : decode cL_law 835 = .ok (.iconst 3, 1) := by decide +kernel
theorem dL_law_836 : decode cL_law 836 = .ok (.iadd, 1) := by decide +kernel
theorem dL_law_837 : decode cL_law 837 = .ok (.iaload, 1) := by decide +kernel
theorem dL_law_838 : decode cL_law 838 = .ok (.invokevirtual 118, 3) := by decide +kernel
theorem dL_law_841 : decode cL_law 841 = .ok (.if_icmp .eq 74, 3) := by decide +kernel
theorem dL_law_844 : decode cL_law 844 = .ok (.iconst 0, 1) := by decide +kernel
theorem dL_law_845 : decode cL_law 845 = .ok (.ireturn, 1) := by decide +kernel
theorem dL_law_846 : decode cL_law 846 = .ok (.aload_n 1, 1) := by decide +kernel
theorem dL_law_847 : decode cL_law 847 = .ok (.aload_n 0, 1) := by decide +kernel
theorem dL_law_848 : decode cL_law 848 = .ok (.iload_n 3, 1) := by decide +kernel
theorem dL_law_849 : decode cL_law 849 = .ok (.iconst 1, 1) := by decide +kernel
theorem dL_law_850 : decode cL_law 850 = .ok (.iadd, 1) := by decide +kernel
theorem dL_law_851 : decode cL_law 851 = .ok (.iaload, 1) := by decide +kernel
theorem dL_law_852 : decode cL_law 852 = .ok (.invokevirtual 119, 3) := by decide +kernel
theorem dL_law_855 : decode cL_law 855 = .ok (.aload_n 2, 1) := by decide +kernel
theorem dL_law_856 : decode cL_law 856 = .ok (.aload_n 0, 1) := by decide +kernel
theorem dL_law_857 : decode cL_law 857 = .ok (.iload_n 3, 1) := by decide +kernel
theorem dL_law_858 : decode cL_law 858 = .ok (.iconst 1, 1) := by decide +kernel
theorem dL_law_859 : decode cL_law 859 = .ok (.iadd, 1) := by decide +kernel
theorem dL_law_860 : decode cL_law 860 = .ok (.iaload, 1) := by decide +kernel
theorem dL_law_861 : decode cL_law 861 = .ok (.invokevirtual 122, 3) := by decide +kernel
theorem dL_law_864 : decode cL_law 864 = .ok (.if_icmp .eq 51, 3) := by decide +kernel
theorem dL_law_867 : decode cL_law 867 = .ok (.iconst 0, 1) := by decide +kernel
theorem dL_law_868 : decode cL_law 868 = .ok (.ireturn, 1) := by decide +kernel
theorem dL_law_869 : decode cL_law 869 = .ok (.aload_n 1, 1) := by decide +kernel
theorem dL_law_870 : decode cL_law 870 = .ok (.aload_n 0, 1) := by decide +kernel
theorem dL_law_871 : decode cL_law 871 = .ok (.iload_n 3, 1) := by decide +kernel
theorem dL_law_872 : decode cL_law 872 = .ok (.iconst 1, 1) := by decide +kernel
theorem dL_law_873 : decode cL_law 873 = .ok (.iadd, 1) := by decide +kernel
theorem dL_law_874 : decode cL_law 874 = .ok (.iaload, 1) := by decide +kernel
theorem dL_law_875 : decode cL_law 875 = .ok (.invokevirtual 123, 3) := by decide +kernel
theorem dL_law_878 : decode cL_law 878 = .ok (.aload_n 2, 1) := by decide +kernel
theorem dL_law_879 : decode cL_law 879 = .ok (.aload_n 0, 1) := by decide +kernel
theorem dL_law_880 : decode cL_law 880 = .ok (.iload_n 3, 1) := by decide +kernel
theorem dL_law_881 : decode cL_law 881 = .ok (.iconst 1, 1) := by decide +kernel
theorem dL_law_882 : decode cL_law 882 = .ok (.iadd, 1) := by decide +kernel
theorem dL_law_883 : decode cL_law 883 = .ok (.iaload, 1) := by decide +kernel
theorem dL_law_884 : decode cL_law 884 = .ok (.invokevirtual 126, 3) := by decide +kernel
theorem dL_law_887 : decode cL_law 887 = .ok (.if_icmp .eq 28, 3) := by decide +kernel
theorem dL_law_890 : decode cL_law 890 = .ok (.iconst 0, 1) := by decide +kernel
theorem dL_law_891 : decode cL_law 891 = .ok (.ireturn, 1) := by decide +kernel
theorem dL_law_892 : decode cL_law 892 = .ok (.aload_n 1, 1) := by decide +kernel
theorem dL_law_893 : decode cL_law 893 = .ok (.aload_n 0, 1) := by decide +kernel
theorem dL_law_894 : decode cL_law 894 = .ok (.iload_n 3, 1) := by decide +kernel
theorem dL_law_895 : decode cL_law 895 = .ok (.iconst 1, 1) := by decide +kernel
theorem dL_law_896 : decode cL_law 896 = .ok (.iadd, 1) := by decide +kernel
theorem dL_law_897 : decode cL_law 897 = .ok (.iaload, 1) := by decide +kernel
theorem dL_law_898 : decode cL_law 898 = .ok (.invokevirtual 127, 3) := by decide +kernel
theorem dL_law_901 : decode cL_law 901 = .ok (.aload_n 2, 1) := by decide +kernel
theorem dL_law_902 : decode cL_law 902 = .ok (.aload_n 0, 1) := by decide +kernel
theorem dL_law_903 : decode cL_law 903 = .ok (.iload_n 3, 1) := by decide +kernel
theorem dL_law_904 : decode cL_law 904 = .ok (.iconst 1, 1) := by decide +kernel
theorem dL_law_905 : decode cL_law 905 = .ok (.iadd, 1) := by decide +kernel
theorem dL_law_906 : decode cL_law 906 = .ok (.iaload, 1) := by decide +kernel
theorem dL_law_907 : decode cL_law 907 = .ok (.invokevirtual 130, 3) := by decide +kernel
theorem dL_law_910 : decode cL_law 910 = .ok (.if_icmp .eq 5, 3) := by decide +kernel
theorem dL_law_913 : decode cL_law 913 = .ok (.iconst 0, 1) := by decide +kernel
theorem dL_law_914 : decode cL_law 914 = .ok (.ireturn, 1) := by decide +kernel
theorem dL_law_915 : decode cL_law 915 = .ok (.iinc 3 6, 3) := by decide +kernel
theorem dL_law_918 : decode cL_law 918 = .ok (.goto (-900), 3) := by decide +kernel
theorem dL_law_921 : decode cL_law 921 = .ok (.iconst 1, 1) := by decide +kernel
theorem dL_law_922 : decode cL_law 922 = .ok (.ireturn, 1) := by decide +kernel
end
section
-- THE WORLD AND THE JUDGEMENT sG: one flat memory of ints (by region, place) and of longs, over a fixed layout of objects and arrays; the machine is hidden behind sG
abbrev sAV : Type := Int32 ⊕ (Int64 ⊕ Nat)
abbrev sI (x : Int32) : sAV := .inl x
abbrev sL (x : Int64) : sAV := .inr (.inl x)
abbrev sR (r : Nat) : sAV := .inr (.inr r)
abbrev sM : Type := (Nat → Nat → Int32) × (Nat → Nat → Int64)
def s_av (ad : Nat → Nat) : sAV → Value
  | .inl x => .int x
  | .inr (.inl x) => .long x
  | .inr (.inr r) => .ref (ad r)
/-- a region: an array of ints; an array of references to regions that follow each other; an object of a kind, its fields (0 an int, 1 a long, r + 2 a reference to r) -/
abbrev sKd : Type := Nat ⊕ ((Nat × Nat) ⊕ (Nat × List Nat))
abbrev sA_ (n : Nat) : sKd := .inl n
abbrev sQ_ (n b : Nat) : sKd := .inr (.inl (n, b))
abbrev sO_ (ci : Nat) (fl : List Nat) : sKd := .inr (.inr (ci, fl))
def s_fv (ad : Nat → Nat) (μ : sM) (r k : Nat) (code : Nat) : Value := match code with
  | 0 => .int (μ.1 r k)
  | 1 => .long (μ.2 r k)
  | q + 2 => .ref (ad q)
def s_E (lay : List sKd) (ad : Nat → Nat) (cA : Nat → ClassId) (μ : sM) (r : Nat) : va_E := match lay[r]? with
  | some (.inl n) => .inl (cA r, n, .inl (μ.1 r))
  | some (.inr (.inl q)) => .inl (cA r, q.1, .inr (.inr (.inr (.inr (fun i => if i < q.1 then some (ad (q.2 + i)) else none)))))
  | some (.inr (.inr o)) => .inr (o.1, o.2.mapIdx (s_fv ad μ r))
  | none => .inr (0, [])
def s_W (lay : List sKd) (ad : Nat → Nat) (cA : Nat → ClassId) (μ : sM) : va_W := (List.range lay.length).map (fun r => (ad r, s_E lay ad cA μ r))
def s_u (μ : sM) (r i : Nat) (v : Int32) : sM := (va_up μ.1 r (upd (μ.1 r) i v), μ.2)
def s_ul (μ : sM) (r i : Nat) (v : Int64) : sM := (μ.1, va_up μ.2 r (vp_updL (μ.2 r) i v))
theorem s_W_get {lay : List sKd} {ad : Nat → Nat} {cA : Nat → ClassId} {μ : sM} {r : Nat} {k : sKd} (h : lay[r]? = some k) : (s_W lay ad cA μ)[r]? = some (ad r, s_E lay ad cA μ r) := by
  have hr : r < lay.length := (List.getElem?_eq_some_iff.mp h).1
  unfold s_W
  rw [List.getElem?_map, List.getElem?_range hr]
  rfl
theorem s_W_set {lay : List sKd} {ad : Nat → Nat} {cA : Nat → ClassId} {μ μ' : sM} {r : Nat} (h : ∀ j, j ≠ r → s_E lay ad cA μ' j = s_E lay ad cA μ j) : (s_W lay ad cA μ).set r (ad r, s_E lay ad cA μ' r) = s_W lay ad cA μ' := by
  apply List.ext_getElem?
  intro j
  unfold s_W
  rw [List.getElem?_set]
  by_cases hj : r = j
  · subst hj
    rw [if_pos rfl]
    by_cases hl : r < lay.length
    · simp [hl]
    · simp [hl]
  · rw [if_neg hj, List.getElem?_map, List.getElem?_map]
    by_cases hl : j < lay.length
    · rw [List.getElem?_range hl]
      simp [h j (fun e => hj e.symm)]
    · have : (List.range lay.length)[j]? = none := List.getElem?_eq_none (by rw [List.length_range]; omega)
      rw [this]
      rfl
theorem s_E_arr {lay : List sKd} {ad : Nat → Nat} {cA : Nat → ClassId} {μ : sM} {r n : Nat} (h : lay[r]? = some (sA_ n)) : s_E lay ad cA μ r = .inl (cA r, n, .inl (μ.1 r)) := by
  unfold s_E
  rw [h]
theorem s_E_rfs {lay : List sKd} {ad : Nat → Nat} {cA : Nat → ClassId} {μ : sM} {r n b : Nat} (h : lay[r]? = some (sQ_ n b)) : s_E lay ad cA μ r = .inl (cA r, n, .inr (.inr (.inr (.inr (fun i => if i < n then some (ad (b + i)) else none))))) := by
  unfold s_E
  rw [h]
theorem s_E_obj {lay : List sKd} {ad : Nat → Nat} {cA : Nat → ClassId} {μ : sM} {r ci : Nat} {fl : List Nat} (h : lay[r]? = some (sO_ ci fl)) : s_E lay ad cA μ r = .inr (ci, fl.mapIdx (s_fv ad μ r)) := by
  unfold s_E
  rw [h]
theorem s_E_u {lay : List sKd} {ad : Nat → Nat} {cA : Nat → ClassId} {μ : sM} {r i j : Nat} {v : Int32} (h : j ≠ r) : s_E lay ad cA (s_u μ r i v) j = s_E lay ad cA μ j := by
  have e : (s_u μ r i v).1 j = μ.1 j := by simp [s_u, va_up, h]
  have e2 : (s_u μ r i v).2 = μ.2 := rfl
  have e3 : s_fv ad (s_u μ r i v) j = s_fv ad μ j := by
    funext k q
    unfold s_fv
    rw [e, e2]
  unfold s_E
  rw [e, e3]
theorem s_E_ul {lay : List sKd} {ad : Nat → Nat} {cA : Nat → ClassId} {μ : sM} {r i j : Nat} {v : Int64} (h : j ≠ r) : s_E lay ad cA (s_ul μ r i v) j = s_E lay ad cA μ j := by
  have e : (s_ul μ r i v).2 j = μ.2 j := by simp [s_ul, va_up, h]
  have e2 : (s_ul μ r i v).1 = μ.1 := rfl
  have e3 : s_fv ad (s_ul μ r i v) j = s_fv ad μ j := by
    funext k q
    unfold s_fv
    rw [e, e2]
  unfold s_E
  rw [e2, e3]
theorem s_fs_get {ad : Nat → Nat} {μ : sM} {r k q : Nat} {fl : List Nat} (h : fl[k]? = some q) : (fl.mapIdx (s_fv ad μ r))[k]? = some (s_fv ad μ r k q) := by
  rw [List.getElem?_mapIdx, h]
  rfl
theorem s_fs_set {ad : Nat → Nat} {μ : sM} {r k : Nat} {v : Int32} {fl : List Nat} (h : fl[k]? = some 0) : (fl.mapIdx (s_fv ad μ r)).set k (.int v) = fl.mapIdx (s_fv ad (s_u μ r k v) r) := by
  apply List.ext_getElem?
  intro j
  rw [List.getElem?_set, List.getElem?_mapIdx, List.getElem?_mapIdx]
  by_cases hj : k = j
  · subst hj
    have hk : k < fl.length := (List.getElem?_eq_some_iff.mp h).1
    rw [if_pos rfl, if_pos (by simpa using hk), h]
    simp [s_fv, s_u, va_up, upd]
  · rw [if_neg hj]
    cases hf : fl[j]? with
    | none => rfl
    | some q =>
      have e : (s_u μ r k v).1 r j = μ.1 r j := by simp [s_u, va_up, upd, Ne.symm hj]
      match q with
      | 0 => simp [s_fv, e]
      | 1 => rfl
      | q + 2 => rfl
theorem s_fs_setl {ad : Nat → Nat} {μ : sM} {r k : Nat} {v : Int64} {fl : List Nat} (h : fl[k]? = some 1) : (fl.mapIdx (s_fv ad μ r)).set k (.long v) = fl.mapIdx (s_fv ad (s_ul μ r k v) r) := by
  apply List.ext_getElem?
  intro j
  rw [List.getElem?_set, List.getElem?_mapIdx, List.getElem?_mapIdx]
  by_cases hj : k = j
  · subst hj
    have hk : k < fl.length := (List.getElem?_eq_some_iff.mp h).1
    rw [if_pos rfl, if_pos (by simpa using hk), h]
    simp [s_fv, s_ul, va_up, vp_updL]
  · rw [if_neg hj]
    cases hf : fl[j]? with
    | none => rfl
    | some q =>
      have e : (s_ul μ r k v).2 r j = μ.2 r j := by simp [s_ul, va_up, vp_updL, Ne.symm hj]
      match q with
      | 0 => rfl
      | 1 => simp [s_fv, e]
      | q + 2 => rfl
-- LOCALS: by their places
def s_ll (ad : Nat → Nat) : Nat → List (Option sAV) → List (Nat × Value)
  | _, [] => []
  | i, none :: t => s_ll ad (i + 1) t
  | i, some v :: t => (i, s_av ad v) :: s_ll ad (i + 1) t
def s_ent : List sAV → List (Option sAV)
  | [] => []
  | .inl x :: t => some (.inl x) :: s_ent t
  | .inr (.inl x) :: t => some (.inr (.inl x)) :: none :: s_ent t
  | .inr (.inr x) :: t => some (.inr (.inr x)) :: s_ent t
theorem s_ll_mem {ad : Nat → Nat} : ∀ {al : List (Option sAV)} {i k : Nat} {w : Value}, (k, w) ∈ s_ll ad i al ↔ ∃ j v, k = i + j ∧ al[j]? = some (some v) ∧ w = s_av ad v
  | [], i, k, w => by simp [s_ll]
  | none :: t, i, k, w => by
    rw [s_ll, s_ll_mem (al := t)]
    constructor
    · rintro ⟨j, v, h1, h2, h3⟩
      exact ⟨j + 1, v, by omega, by simpa using h2, h3⟩
    · rintro ⟨j, v, h1, h2, h3⟩
      cases j with
      | zero => simp at h2
      | succ j => exact ⟨j, v, by omega, by simpa using h2, h3⟩
  | some u :: t, i, k, w => by
    rw [s_ll, List.mem_cons, s_ll_mem (al := t)]
    constructor
    · rintro (h | ⟨j, v, h1, h2, h3⟩)
      · cases h
        exact ⟨0, u, rfl, rfl, rfl⟩
      · exact ⟨j + 1, v, by omega, by simpa using h2, h3⟩
    · rintro ⟨j, v, h1, h2, h3⟩
      cases j with
      | zero =>
        left
        have h2 : u = v := by simpa using h2
        rw [h1, h3, h2]
        rfl
      | succ j => exact Or.inr ⟨j, v, by omega, by simpa using h2, h3⟩
theorem s_lv_at {ad : Nat → Nat} {ls : Array Slot} {nL : Nat} {al : List (Option sAV)} (h : lv_has ls nL (s_ll ad 0 al)) {k : Nat} {v : sAV} (hk : al[k]? = some (some v)) : ls[k]? = some (.val (s_av ad v)) :=
  h.2.2 (k, s_av ad v) (s_ll_mem.mpr ⟨k, v, by omega, hk, rfl⟩)
theorem s_lv_sub {ls : Array Slot} {nL : Nat} {l l' : List (Nat × Value)} (h : lv_has ls nL l) (hs : ∀ q ∈ l', q ∈ l) : lv_has ls nL l' := ⟨h.1, h.2.1, fun q hq => h.2.2 q (hs q hq)⟩
/-- what a store at k leaves of a long at k - 1 -/
def s_kill : List (Option sAV) → Nat → List (Option sAV)
  | al, 0 => al
  | al, k + 1 => match al[k]? with
    | some (some (.inr (.inl _))) => al.set k none
    | _ => al
def s_st1 (al : List (Option sAV)) (k : Nat) (v : sAV) : List (Option sAV) := (s_kill al k).set k (some v)
def s_st2 (al : List (Option sAV)) (k : Nat) (v : sAV) : List (Option sAV) := ((s_kill al k).set (k + 1) none).set k (some v)
theorem s_kill_succ (al : List (Option sAV)) (k : Nat) : s_kill al (k + 1) = (match al[k]? with
    | some (some (.inr (.inl _))) => al.set k none
    | _ => al) := rfl
theorem s_kill_get {al : List (Option sAV)} {k j : Nat} {v : sAV} (h : (s_kill al k)[j]? = some (some v)) : al[j]? = some (some v) ∧ ∀ ad, ¬ (j + 1 = k ∧ (s_av ad v).category = 2) := by
  cases k with
  | zero => exact ⟨h, fun ad q => by omega⟩
  | succ k =>
    rw [s_kill_succ] at h
    split at h
    next x hx =>
      rw [List.getElem?_set] at h
      split at h
      next e =>
        split at h
        · cases h
        · cases h
      next e => exact ⟨h, fun ad q => e (by omega)⟩
    next hx =>
      refine ⟨h, fun ad q => ?_⟩
      have e : j = k := by omega
      subst e
      match v, h, q with
      | .inl x, h, q => simp [s_av, Value.category] at q
      | .inr (.inl x), h, q => exact hx x h
      | .inr (.inr x), h, q => simp [s_av, Value.category] at q
theorem s_st1_in {ad : Nat → Nat} {al : List (Option sAV)} {k : Nat} {v : sAV} : ∀ q ∈ s_ll ad 0 (s_st1 al k v), q ∈ (k, s_av ad v) :: (s_ll ad 0 al).filter (fun q => !(q.1 == k) && !(q.1 + 1 == k && q.2.category == 2)) := by
  rintro ⟨i, w⟩ hq
  obtain ⟨j, u, h1, h2, h3⟩ := s_ll_mem.mp hq
  have h1 : i = j := by omega
  subst h1
  subst h3
  unfold s_st1 at h2
  rw [List.getElem?_set] at h2
  split at h2
  next e =>
    subst e
    split at h2
    · have : v = u := by simpa using h2
      subst this
      exact List.mem_cons_self
    · cases h2
  next e =>
    obtain ⟨g1, g2⟩ := s_kill_get h2
    refine List.mem_cons_of_mem _ (List.mem_filter.mpr ⟨s_ll_mem.mpr ⟨i, u, by omega, g1, rfl⟩, ?_⟩)
    have g3 := g2 ad
    simp
    refine ⟨fun q => e q.symm, ?_⟩
    by_cases q1 : i + 1 = k
    · exact Or.inr (fun q2 => g3 ⟨q1, q2⟩)
    · exact Or.inl q1
theorem s_st2_in {ad : Nat → Nat} {al : List (Option sAV)} {k : Nat} {v : sAV} : ∀ q ∈ s_ll ad 0 (s_st2 al k v), q ∈ (k, s_av ad v) :: (s_ll ad 0 al).filter (fun q => !(q.1 == k) && (!(q.1 == k + 1) && !(q.1 + 1 == k && q.2.category == 2))) := by
  rintro ⟨i, w⟩ hq
  obtain ⟨j, u, h1, h2, h3⟩ := s_ll_mem.mp hq
  have h1 : i = j := by omega
  subst h1
  subst h3
  unfold s_st2 at h2
  rw [List.getElem?_set] at h2
  split at h2
  next e =>
    subst e
    split at h2
    · have : v = u := by simpa using h2
      subst this
      exact List.mem_cons_self
    · cases h2
  next e =>
    rw [List.getElem?_set] at h2
    split at h2
    next e2 =>
      split at h2 <;> cases h2
    next e2 =>
      obtain ⟨g1, g2⟩ := s_kill_get h2
      refine List.mem_cons_of_mem _ (List.mem_filter.mpr ⟨s_ll_mem.mpr ⟨i, u, by omega, g1, rfl⟩, ?_⟩)
      have g3 := g2 ad
      simp
      refine ⟨fun q => e q.symm, fun q => e2 q.symm, ?_⟩
      by_cases q1 : i + 1 = k
      · exact Or.inr (fun q2 => g3 ⟨q1, q2⟩)
      · exact Or.inl q1
theorem s_ent_args {ad : Nat → Nat} : ∀ (as : List sAV) (i : Nat), s_ll ad i (s_ent as) = lv_args i (as.map (s_av ad))
  | [], i => rfl
  | .inl x :: t, i => by
    simp only [s_ent, s_ll, List.map_cons, lv_args]
    rw [s_ent_args t]
    simp [s_av, Value.category]
  | .inr (.inl x) :: t, i => by
    simp only [s_ent, s_ll, List.map_cons, lv_args]
    rw [s_ent_args t]
    simp [s_av, Value.category]
  | .inr (.inr x) :: t, i => by
    simp only [s_ent, s_ll, List.map_cons, lv_args]
    rw [s_ent_args t]
    simp [s_av, Value.category]
theorem s_sl_cons (v : Value) (vs : List Value) : lg_sl (v :: vs) = (if v.category = 2 then [.val v, .second] else [.val v]) ++ lg_sl vs := by
  simp [lg_sl]
theorem s_ent_len {ad : Nat → Nat} : ∀ (as : List sAV), (lg_sl (as.map (s_av ad))).length = (s_ent as).length
  | [] => rfl
  | .inl x :: t => by
    rw [List.map_cons, s_sl_cons, List.length_append, s_ent_len t]
    show 1 + (s_ent t).length = (s_ent t).length + 1
    omega
  | .inr (.inl x) :: t => by
    rw [List.map_cons, s_sl_cons, List.length_append, s_ent_len t]
    show 2 + (s_ent t).length = (s_ent t).length + 1 + 1
    omega
  | .inr (.inr x) :: t => by
    rw [List.map_cons, s_sl_cons, List.length_append, s_ent_len t]
    show 1 + (s_ent t).length = (s_ent t).length + 1
    omega
end
section
-- THE LAYOUT, THE WORDS, THE LINKS (printed by wip/whole/gen_lay.py)
/- regions: 0 main, 1 now, 2 img0, 3 img1, 4 now.size, 5 now.laid, 6 now.left, 7 now.warm, 8 now.sight, 9 now.girth, 10 now.hunger, 11 now.habit, 12 now.often, 13 img0.size, 14 img0.laid, 15 img0.left, 16 img0.warm, 17 img0.sight, 18 img0.girth, 19 img0.hunger, 20 img0.habit, 21 img0.often, 22 img1.size, 23 img1.laid, 24 img1.left, 25 img1.warm, 26 img1.sight, 27 img1.girth, 28 img1.hunger, 29 img1.habit, 30 img1.often, 31 images, 32 kept, 33 pad, 34 signs, 35 course, 36 course.left, 37 evening, 38 evening.warm, 39 evening.first, 40 evening.last, 41 evening.leaves, 42 evening.taken, 43 rows, 44 rows.sights, 45 rows.row, 46 rows.firstUser, 47 rows.least, 48 rows.cups, 49 rowsByLeft, 50 rbl0, 51 rbl1, 52 rbl2, 53 rbl3, 54 rbl4, 55 rbl5, 56 rbl6, 57 beliefs, 58 leavings, 59 found, 60 twos, 61 doing, 62 model, 63 model.is, 64 model.warm, 65 model.sight, 66 model.size, 67 model.hunger, 68 model.habit, 69 model.often, 70 model.pad, 71 model.hadLeft, 72 model.hadWarm, 73 model.usedIn, 74 model.firstAt, 75 model.lastAt, 76 model.leaves, 77 model.leavesWarm, 78 model.row, 79 model.firstRow, 80 model.cups, 81 model.leftBy, 82 model.alone, 83 model.tables, 84 model.kept, 85 model.isKept -/
def sLay : List sKd := [sO_ 8 [3, 33, 34, 35, 37, 39, 45, 59, 60, 62], sO_ 6 [0, 0, 0, 6, 7, 8, 9, 10, 11, 12, 13, 14], sO_ 6 [0, 0, 0, 15, 16, 17, 18, 19, 20, 21, 22, 23], sO_ 6 [0, 0, 0, 24, 25, 26, 27, 28, 29, 30, 31, 32], sA_ 7, sA_ 7, sA_ 7, sA_ 7, sA_ 7, sA_ 4, sA_ 4, sA_ 4, sA_ 4, sA_ 7, sA_ 7, sA_ 7, sA_ 7, sA_ 7, sA_ 4, sA_ 4, sA_ 4, sA_ 4, sA_ 7, sA_ 7, sA_ 7, sA_ 7, sA_ 7, sA_ 4, sA_ 4, sA_ 4, sA_ 4, sQ_ 2 2, sA_ 2, sO_ 4 [0, 36], sA_ 40, sO_ 1 [3, 38, 0, 0], sA_ 7, sO_ 2 [3, 37, 40, 41, 42, 43, 44, 0, 0, 0, 0], sA_ 7, sA_ 7, sA_ 7, sA_ 7, sA_ 40, sO_ 5 [3, 37, 46, 47, 48, 0, 0, 0, 0, 49, 50, 51], sA_ 7, sA_ 6, sA_ 7, sA_ 6, sA_ 7, sQ_ 7 50, sA_ 10, sA_ 10, sA_ 10, sA_ 10, sA_ 10, sA_ 10, sA_ 10, sO_ 0 [3, 37, 1, 1], sO_ 3 [37, 61, 0], sA_ 2048, sO_ 7 [3, 37, 63], sA_ 4, sO_ 9 [0, 65, 66, 67, 0, 68, 69, 70, 71, 72, 0, 0, 0, 73, 74, 0, 0, 0, 75, 76, 77, 78, 79, 80, 0, 0, 0, 0, 0, 81, 82, 83, 84, 85, 86, 87, 0, 0], sA_ 28, sA_ 7, sA_ 7, sA_ 4, sA_ 4, sA_ 4, sA_ 4, sA_ 40, sA_ 7, sA_ 7, sA_ 40, sA_ 7, sA_ 7, sA_ 7, sA_ 7, sA_ 6, sA_ 6, sA_ 7, sA_ 70, sA_ 4, sA_ 1024, sA_ 160, sA_ 2]
def sTy (r : Nat) : FieldType := if r = 32 then .boolean else if r = 85 then .boolean else if r = 31 then .object RX6 else if r = 49 then .array .int else .int
def sT : List Cond := lw_tbl.filter goodWord
def s_nest : Cond → Bool
  | .fieldLinkNest _ _ _ _ _ _ => true
  | .methodLinkNest _ _ _ _ => true
  | _ => false
def sTn : List Cond := lw_tbl.filter s_nest
theorem sT_of {w : Cond} (i : Nat) (h : lw_tbl[i]? = some w) (hg : goodWord w = true) : w ∈ sT := List.mem_filter.mpr ⟨List.mem_of_getElem? h, hg⟩
theorem sTn_of {w : Cond} (i : Nat) (h : lw_tbl[i]? = some w) (hg : s_nest w = true) : w ∈ sTn := List.mem_filter.mpr ⟨List.mem_of_getElem? h, hg⟩
theorem sT_good : GoodIn sT sT := fun w hw => ⟨hw, good_of_word (List.mem_filter.mp hw).2⟩
theorem sTn_warm {s U : State} (hW : s.WarmedH U.vm) (h : ∀ w ∈ sTn, va_Nw w s) : ∀ w ∈ sTn, va_Nw w U := fun w hw => by
  have h1 := h w hw
  have h2 := (List.mem_filter.mp hw).2
  cases w <;> first | (cases h2; done) | exact va_Nw.warmF hW h1 | exact va_Nw.warmM hW h1
theorem sTn_same {u U : State} (e : u.vm = U.vm) (h : ∀ w ∈ sTn, va_Nw w u) : ∀ w ∈ sTn, va_Nw w U := fun w hw => by
  have h1 := h w hw
  have h2 := (List.mem_filter.mp hw).2
  cases w <;> first | (cases h2; done) | exact va_Nw.same rfl e h1
def s_KC (ci : Nat) (C : String) (T : u_T) (N : Nat) : Prop := vwCl[ci]? = some (C, T, N) ∧ (∀ w ∈ u_ws C T N, w ∈ sT) ∧ (∃ ty0 : Nat → FieldType, ∀ k, k < N → parseFieldDescriptor (T k).2.2.1 = some (ty0 k)) ∧ (∀ a, a < N → ∀ b, b < N → a ≠ b → (T a).2.1 ≠ (T b).2.1)
def s_FL (own : String) (idx ci k : Nat) (ty : FieldType) (fin : Bool) : Prop := ∃ (C : String) (T : u_T) (N : Nat), s_KC ci C T N ∧ k < N ∧ (T k).1 = C ∧ (T k).2.2.2 = fin ∧ parseFieldDescriptor (T k).2.2.1 = some ty ∧ (Cond.fieldLink own idx C (T k).2.1 (T k).2.2.1 ∈ sT ∨ ∃ host, Cond.fieldLinkNest own idx C (T k).2.1 (T k).2.2.1 host ∈ sTn)
abbrev sMI : Type := MethodName × ByteArray × Nat × Option FieldType
def s_ML (own : String) (idx : Nat) (y : MethodName) : Prop := Cond.methodLink own idx y ∈ sT ∨ ∃ host, Cond.methodLinkNest own idx y host ∈ sTn
def s_MF (mi : sMI) (n : Nat) : Prop := Cond.code mi.1 mi.2.1 mi.2.2.1 mi.2.2.2 ∈ sT ∧ Cond.initialized mi.1.cls ∈ sT ∧ mi.1.cls ≠ "java/lang/invoke/MethodHandle" ∧ mi.1.cls ≠ "java/lang/invoke/VarHandle" ∧ plainName mi.1.cls = true ∧ (parseMethodDescriptor mi.1.desc).map (fun d => d.parameters.length) = some n
def s_MV (mi : sMI) : Prop := Cond.instanceMethod mi.1 ∈ sT ∧ Cond.selects mi.1.cls mi.1 mi.1 ∈ sT
def s_MS (mi : sMI) : Prop := Cond.static mi.1 ∈ sT
theorem s_ws_of {ws : List Cond} (ps : List Nat) (hp : ws = ps.filterMap (fun i => lw_tbl[i]?)) (h : ws.all goodWord = true) : ∀ w ∈ ws, w ∈ sT := by
  intro w hw
  have h1 := List.all_eq_true.mp h w hw
  rw [hp] at hw
  obtain ⟨i, -, hi⟩ := List.mem_filterMap.mp hw
  exact sT_of i hi h1
theorem s_KCX0 : s_KC 0 RX0 TX0 4 := ⟨rfl, s_ws_of [329, 331, 333, 335] (by decide +kernel) (by decide +kernel), ⟨tyX0, tyX0_ok⟩, nmX0⟩
theorem s_KCX1 : s_KC 1 RX1 TX1 4 := ⟨rfl, s_ws_of [209, 211, 213, 215] (by decide +kernel) (by decide +kernel), ⟨tyX1, tyX1_ok⟩, nmX1⟩
theorem s_KCX2 : s_KC 2 RX2 TX2 11 := ⟨rfl, s_ws_of [244, 246, 248, 250, 252, 254, 256, 258, 260, 262, 264] (by decide +kernel) (by decide +kernel), ⟨tyX2, tyX2_ok⟩, nmX2⟩
theorem s_KCX3 : s_KC 3 RX3 TX3 3 := ⟨rfl, s_ws_of [347, 349, 351] (by decide +kernel) (by decide +kernel), ⟨tyX3, tyX3_ok⟩, nmX3⟩
theorem s_KCX4 : s_KC 4 RX4 TX4 2 := ⟨rfl, s_ws_of [184, 186] (by decide +kernel) (by decide +kernel), ⟨tyX4, tyX4_ok⟩, nmX4⟩
theorem s_KCX5 : s_KC 5 RX5 TX5 12 := ⟨rfl, s_ws_of [292, 294, 296, 298, 300, 302, 304, 306, 308, 310, 312, 314] (by decide +kernel) (by decide +kernel), ⟨tyX5, tyX5_ok⟩, nmX5⟩
theorem s_KCX6 : s_KC 6 RX6 TX6 12 := ⟨rfl, s_ws_of [146, 148, 150, 152, 154, 156, 158, 160, 162, 164, 166, 168] (by decide +kernel) (by decide +kernel), ⟨tyX6, tyX6_ok⟩, nmX6⟩
theorem s_KCX7 : s_KC 7 RX7 TX7 3 := ⟨rfl, s_ws_of [363, 365, 367] (by decide +kernel) (by decide +kernel), ⟨tyX7, tyX7_ok⟩, nmX7⟩
theorem s_KCX8 : s_KC 8 RX8 TX8 10 := ⟨rfl, s_ws_of [380, 382, 384, 386, 388, 390, 392, 394, 396, 398] (by decide +kernel) (by decide +kernel), ⟨tyX8, tyX8_ok⟩, nmX8⟩
theorem s_KCX9 : s_KC 9 RX9 TX9 38 := ⟨rfl, s_ws_of [813, 815, 817, 819, 821, 823, 825, 827, 829, 831, 833, 835, 837, 839, 841, 843, 845, 847, 849, 851, 853, 855, 857, 859, 861, 863, 865, 867, 869, 871, 873, 875, 877, 879, 881, 883, 885, 887] (by decide +kernel) (by decide +kernel), ⟨tyX9, tyX9_ok⟩, nmX9⟩
theorem fX6_43 : s_FL RX6 43 6 0 (.int) false := ⟨_, _, _, s_KCX6, by decide, rfl, rfl, by decide +kernel, Or.inl (sT_of 113 (by decide +kernel) rfl)⟩
theorem fX8_79 : s_FL RX8 79 6 0 (.int) false := ⟨_, _, _, s_KCX6, by decide, rfl, rfl, by decide +kernel, Or.inr ⟨"SevenPlates", sTn_of 114 (by decide +kernel) rfl⟩⟩
theorem fX1_36 : s_FL RX1 36 6 0 (.int) false := ⟨_, _, _, s_KCX6, by decide, rfl, rfl, by decide +kernel, Or.inr ⟨"SevenPlates", sTn_of 115 (by decide +kernel) rfl⟩⟩
theorem fX5_107 : s_FL RX5 107 6 0 (.int) false := ⟨_, _, _, s_KCX6, by decide, rfl, rfl, by decide +kernel, Or.inr ⟨"SevenPlates", sTn_of 116 (by decide +kernel) rfl⟩⟩
theorem fX7_47 : s_FL RX7 47 6 0 (.int) false := ⟨_, _, _, s_KCX6, by decide, rfl, rfl, by decide +kernel, Or.inr ⟨"SevenPlates", sTn_of 117 (by decide +kernel) rfl⟩⟩
theorem fX6_47 : s_FL RX6 47 6 1 (.int) false := ⟨_, _, _, s_KCX6, by decide, rfl, rfl, by decide +kernel, Or.inl (sT_of 118 (by decide +kernel) rfl)⟩
theorem fX1_28 : s_FL RX1 28 6 1 (.int) false := ⟨_, _, _, s_KCX6, by decide, rfl, rfl, by decide +kernel, Or.inr ⟨"SevenPlates", sTn_of 119 (by decide +kernel) rfl⟩⟩
theorem fX7_54 : s_FL RX7 54 6 1 (.int) false := ⟨_, _, _, s_KCX6, by decide, rfl, rfl, by decide +kernel, Or.inr ⟨"SevenPlates", sTn_of 120 (by decide +kernel) rfl⟩⟩
theorem fX6_56 : s_FL RX6 56 6 2 (.int) false := ⟨_, _, _, s_KCX6, by decide, rfl, rfl, by decide +kernel, Or.inl (sT_of 121 (by decide +kernel) rfl)⟩
theorem fX8_107 : s_FL RX8 107 6 2 (.int) false := ⟨_, _, _, s_KCX6, by decide, rfl, rfl, by decide +kernel, Or.inr ⟨"SevenPlates", sTn_of 122 (by decide +kernel) rfl⟩⟩
theorem fX6_9 : s_FL RX6 9 6 3 (.array .int) true := ⟨_, _, _, s_KCX6, by decide, rfl, rfl, by decide +kernel, Or.inl (sT_of 123 (by decide +kernel) rfl)⟩
theorem fX1_46 : s_FL RX1 46 6 3 (.array .int) true := ⟨_, _, _, s_KCX6, by decide, rfl, rfl, by decide +kernel, Or.inr ⟨"SevenPlates", sTn_of 124 (by decide +kernel) rfl⟩⟩
theorem fX6_15 : s_FL RX6 15 6 4 (.array .int) true := ⟨_, _, _, s_KCX6, by decide, rfl, rfl, by decide +kernel, Or.inl (sT_of 125 (by decide +kernel) rfl)⟩
theorem fX8_91 : s_FL RX8 91 6 4 (.array .int) true := ⟨_, _, _, s_KCX6, by decide, rfl, rfl, by decide +kernel, Or.inr ⟨"SevenPlates", sTn_of 126 (by decide +kernel) rfl⟩⟩
theorem fX2_116 : s_FL RX2 116 6 4 (.array .int) true := ⟨_, _, _, s_KCX6, by decide, rfl, rfl, by decide +kernel, Or.inr ⟨"SevenPlates", sTn_of 127 (by decide +kernel) rfl⟩⟩
theorem fX6_18 : s_FL RX6 18 6 5 (.array .int) true := ⟨_, _, _, s_KCX6, by decide, rfl, rfl, by decide +kernel, Or.inl (sT_of 128 (by decide +kernel) rfl)⟩
theorem fX1_19 : s_FL RX1 19 6 5 (.array .int) true := ⟨_, _, _, s_KCX6, by decide, rfl, rfl, by decide +kernel, Or.inr ⟨"SevenPlates", sTn_of 129 (by decide +kernel) rfl⟩⟩
theorem fX7_60 : s_FL RX7 60 6 5 (.array .int) true := ⟨_, _, _, s_KCX6, by decide, rfl, rfl, by decide +kernel, Or.inr ⟨"SevenPlates", sTn_of 130 (by decide +kernel) rfl⟩⟩
theorem fX8_159 : s_FL RX8 159 6 5 (.array .int) true := ⟨_, _, _, s_KCX6, by decide, rfl, rfl, by decide +kernel, Or.inr ⟨"SevenPlates", sTn_of 131 (by decide +kernel) rfl⟩⟩
theorem fX6_21 : s_FL RX6 21 6 6 (.array .int) true := ⟨_, _, _, s_KCX6, by decide, rfl, rfl, by decide +kernel, Or.inl (sT_of 132 (by decide +kernel) rfl)⟩
theorem fX2_68 : s_FL RX2 68 6 6 (.array .int) true := ⟨_, _, _, s_KCX6, by decide, rfl, rfl, by decide +kernel, Or.inr ⟨"SevenPlates", sTn_of 133 (by decide +kernel) rfl⟩⟩
theorem fX8_166 : s_FL RX8 166 6 6 (.array .int) true := ⟨_, _, _, s_KCX6, by decide, rfl, rfl, by decide +kernel, Or.inr ⟨"SevenPlates", sTn_of 134 (by decide +kernel) rfl⟩⟩
theorem fX6_24 : s_FL RX6 24 6 7 (.array .int) true := ⟨_, _, _, s_KCX6, by decide, rfl, rfl, by decide +kernel, Or.inl (sT_of 135 (by decide +kernel) rfl)⟩
theorem fX0_54 : s_FL RX0 54 6 7 (.array .int) true := ⟨_, _, _, s_KCX6, by decide, rfl, rfl, by decide +kernel, Or.inr ⟨"SevenPlates", sTn_of 136 (by decide +kernel) rfl⟩⟩
theorem fX8_173 : s_FL RX8 173 6 7 (.array .int) true := ⟨_, _, _, s_KCX6, by decide, rfl, rfl, by decide +kernel, Or.inr ⟨"SevenPlates", sTn_of 137 (by decide +kernel) rfl⟩⟩
theorem fX6_27 : s_FL RX6 27 6 8 (.array .int) true := ⟨_, _, _, s_KCX6, by decide, rfl, rfl, by decide +kernel, Or.inl (sT_of 138 (by decide +kernel) rfl)⟩
theorem fX1_49 : s_FL RX1 49 6 8 (.array .int) true := ⟨_, _, _, s_KCX6, by decide, rfl, rfl, by decide +kernel, Or.inr ⟨"SevenPlates", sTn_of 139 (by decide +kernel) rfl⟩⟩
theorem fX6_30 : s_FL RX6 30 6 9 (.array .int) true := ⟨_, _, _, s_KCX6, by decide, rfl, rfl, by decide +kernel, Or.inl (sT_of 140 (by decide +kernel) rfl)⟩
theorem fX1_58 : s_FL RX1 58 6 9 (.array .int) true := ⟨_, _, _, s_KCX6, by decide, rfl, rfl, by decide +kernel, Or.inr ⟨"SevenPlates", sTn_of 141 (by decide +kernel) rfl⟩⟩
theorem fX6_33 : s_FL RX6 33 6 10 (.array .int) true := ⟨_, _, _, s_KCX6, by decide, rfl, rfl, by decide +kernel, Or.inl (sT_of 142 (by decide +kernel) rfl)⟩
theorem fX1_43 : s_FL RX1 43 6 10 (.array .int) true := ⟨_, _, _, s_KCX6, by decide, rfl, rfl, by decide +kernel, Or.inr ⟨"SevenPlates", sTn_of 143 (by decide +kernel) rfl⟩⟩
theorem fX6_36 : s_FL RX6 36 6 11 (.array .int) true := ⟨_, _, _, s_KCX6, by decide, rfl, rfl, by decide +kernel, Or.inl (sT_of 144 (by decide +kernel) rfl)⟩
theorem fX0_25 : s_FL RX0 25 6 11 (.array .int) true := ⟨_, _, _, s_KCX6, by decide, rfl, rfl, by decide +kernel, Or.inr ⟨"SevenPlates", sTn_of 145 (by decide +kernel) rfl⟩⟩
theorem fX4_15 : s_FL RX4 15 4 0 (.int) false := ⟨_, _, _, s_KCX4, by decide, rfl, rfl, by decide +kernel, Or.inl (sT_of 179 (by decide +kernel) rfl)⟩
theorem fX2_38 : s_FL RX2 38 4 0 (.int) false := ⟨_, _, _, s_KCX4, by decide, rfl, rfl, by decide +kernel, Or.inr ⟨"SevenPlates", sTn_of 180 (by decide +kernel) rfl⟩⟩
theorem fX8_122 : s_FL RX8 122 4 0 (.int) false := ⟨_, _, _, s_KCX4, by decide, rfl, rfl, by decide +kernel, Or.inr ⟨"SevenPlates", sTn_of 181 (by decide +kernel) rfl⟩⟩
theorem fX4_9 : s_FL RX4 9 4 1 (.array .int) true := ⟨_, _, _, s_KCX4, by decide, rfl, rfl, by decide +kernel, Or.inl (sT_of 182 (by decide +kernel) rfl)⟩
theorem fX2_44 : s_FL RX2 44 4 1 (.array .int) true := ⟨_, _, _, s_KCX4, by decide, rfl, rfl, by decide +kernel, Or.inr ⟨"SevenPlates", sTn_of 183 (by decide +kernel) rfl⟩⟩
theorem fX1_15 : s_FL RX1 15 1 0 (.object "SevenPlates$Table") true := ⟨_, _, _, s_KCX1, by decide, rfl, rfl, by decide +kernel, Or.inl (sT_of 196 (by decide +kernel) rfl)⟩
theorem fX1_9 : s_FL RX1 9 1 1 (.array .int) true := ⟨_, _, _, s_KCX1, by decide, rfl, rfl, by decide +kernel, Or.inl (sT_of 197 (by decide +kernel) rfl)⟩
theorem fX5_110 : s_FL RX5 110 1 1 (.array .int) true := ⟨_, _, _, s_KCX1, by decide, rfl, rfl, by decide +kernel, Or.inr ⟨"SevenPlates", sTn_of 198 (by decide +kernel) rfl⟩⟩
theorem fX7_57 : s_FL RX7 57 1 1 (.array .int) true := ⟨_, _, _, s_KCX1, by decide, rfl, rfl, by decide +kernel, Or.inr ⟨"SevenPlates", sTn_of 199 (by decide +kernel) rfl⟩⟩
theorem fX2_113 : s_FL RX2 113 1 1 (.array .int) true := ⟨_, _, _, s_KCX1, by decide, rfl, rfl, by decide +kernel, Or.inr ⟨"SevenPlates", sTn_of 200 (by decide +kernel) rfl⟩⟩
theorem fX8_147 : s_FL RX8 147 1 1 (.array .int) true := ⟨_, _, _, s_KCX1, by decide, rfl, rfl, by decide +kernel, Or.inr ⟨"SevenPlates", sTn_of 201 (by decide +kernel) rfl⟩⟩
theorem fX1_32 : s_FL RX1 32 1 2 (.int) false := ⟨_, _, _, s_KCX1, by decide, rfl, rfl, by decide +kernel, Or.inl (sT_of 202 (by decide +kernel) rfl)⟩
theorem fX8_240 : s_FL RX8 240 1 2 (.int) false := ⟨_, _, _, s_KCX1, by decide, rfl, rfl, by decide +kernel, Or.inr ⟨"SevenPlates", sTn_of 203 (by decide +kernel) rfl⟩⟩
theorem fX1_33 : s_FL RX1 33 1 3 (.int) false := ⟨_, _, _, s_KCX1, by decide, rfl, rfl, by decide +kernel, Or.inl (sT_of 204 (by decide +kernel) rfl)⟩
theorem fX3_48 : s_FL RX3 48 1 3 (.int) false := ⟨_, _, _, s_KCX1, by decide, rfl, rfl, by decide +kernel, Or.inr ⟨"SevenPlates", sTn_of 205 (by decide +kernel) rfl⟩⟩
theorem fX0_61 : s_FL RX0 61 1 3 (.int) false := ⟨_, _, _, s_KCX1, by decide, rfl, rfl, by decide +kernel, Or.inr ⟨"SevenPlates", sTn_of 206 (by decide +kernel) rfl⟩⟩
theorem fX5_98 : s_FL RX5 98 1 3 (.int) false := ⟨_, _, _, s_KCX1, by decide, rfl, rfl, by decide +kernel, Or.inr ⟨"SevenPlates", sTn_of 207 (by decide +kernel) rfl⟩⟩
theorem fX8_249 : s_FL RX8 249 1 3 (.int) false := ⟨_, _, _, s_KCX1, by decide, rfl, rfl, by decide +kernel, Or.inr ⟨"SevenPlates", sTn_of 208 (by decide +kernel) rfl⟩⟩
theorem fX2_27 : s_FL RX2 27 2 0 (.object "SevenPlates$Table") true := ⟨_, _, _, s_KCX2, by decide, rfl, rfl, by decide +kernel, Or.inl (sT_of 224 (by decide +kernel) rfl)⟩
theorem fX2_31 : s_FL RX2 31 2 1 (.object "SevenPlates$Course") true := ⟨_, _, _, s_KCX2, by decide, rfl, rfl, by decide +kernel, Or.inl (sT_of 225 (by decide +kernel) rfl)⟩
theorem fX2_9 : s_FL RX2 9 2 2 (.array .int) true := ⟨_, _, _, s_KCX2, by decide, rfl, rfl, by decide +kernel, Or.inl (sT_of 226 (by decide +kernel) rfl)⟩
theorem fX8_150 : s_FL RX8 150 2 2 (.array .int) true := ⟨_, _, _, s_KCX2, by decide, rfl, rfl, by decide +kernel, Or.inr ⟨"SevenPlates", sTn_of 227 (by decide +kernel) rfl⟩⟩
theorem fX2_15 : s_FL RX2 15 2 3 (.array .int) true := ⟨_, _, _, s_KCX2, by decide, rfl, rfl, by decide +kernel, Or.inl (sT_of 228 (by decide +kernel) rfl)⟩
theorem fX8_153 : s_FL RX8 153 2 3 (.array .int) true := ⟨_, _, _, s_KCX2, by decide, rfl, rfl, by decide +kernel, Or.inr ⟨"SevenPlates", sTn_of 229 (by decide +kernel) rfl⟩⟩
theorem fX2_18 : s_FL RX2 18 2 4 (.array .int) true := ⟨_, _, _, s_KCX2, by decide, rfl, rfl, by decide +kernel, Or.inl (sT_of 230 (by decide +kernel) rfl)⟩
theorem fX8_156 : s_FL RX8 156 2 4 (.array .int) true := ⟨_, _, _, s_KCX2, by decide, rfl, rfl, by decide +kernel, Or.inr ⟨"SevenPlates", sTn_of 231 (by decide +kernel) rfl⟩⟩
theorem fX2_21 : s_FL RX2 21 2 5 (.array .int) true := ⟨_, _, _, s_KCX2, by decide, rfl, rfl, by decide +kernel, Or.inl (sT_of 232 (by decide +kernel) rfl)⟩
theorem fX8_237 : s_FL RX8 237 2 5 (.array .int) true := ⟨_, _, _, s_KCX2, by decide, rfl, rfl, by decide +kernel, Or.inr ⟨"SevenPlates", sTn_of 233 (by decide +kernel) rfl⟩⟩
theorem fX2_24 : s_FL RX2 24 2 6 (.array .int) true := ⟨_, _, _, s_KCX2, by decide, rfl, rfl, by decide +kernel, Or.inl (sT_of 234 (by decide +kernel) rfl)⟩
theorem fX8_144 : s_FL RX8 144 2 6 (.array .int) true := ⟨_, _, _, s_KCX2, by decide, rfl, rfl, by decide +kernel, Or.inr ⟨"SevenPlates", sTn_of 235 (by decide +kernel) rfl⟩⟩
theorem fX2_62 : s_FL RX2 62 2 7 (.int) false := ⟨_, _, _, s_KCX2, by decide, rfl, rfl, by decide +kernel, Or.inl (sT_of 236 (by decide +kernel) rfl)⟩
theorem fX8_132 : s_FL RX8 132 2 7 (.int) false := ⟨_, _, _, s_KCX2, by decide, rfl, rfl, by decide +kernel, Or.inr ⟨"SevenPlates", sTn_of 237 (by decide +kernel) rfl⟩⟩
theorem fX2_82 : s_FL RX2 82 2 8 (.int) false := ⟨_, _, _, s_KCX2, by decide, rfl, rfl, by decide +kernel, Or.inl (sT_of 238 (by decide +kernel) rfl)⟩
theorem fX8_135 : s_FL RX8 135 2 8 (.int) false := ⟨_, _, _, s_KCX2, by decide, rfl, rfl, by decide +kernel, Or.inr ⟨"SevenPlates", sTn_of 239 (by decide +kernel) rfl⟩⟩
theorem fX2_85 : s_FL RX2 85 2 9 (.int) false := ⟨_, _, _, s_KCX2, by decide, rfl, rfl, by decide +kernel, Or.inl (sT_of 240 (by decide +kernel) rfl)⟩
theorem fX8_138 : s_FL RX8 138 2 9 (.int) false := ⟨_, _, _, s_KCX2, by decide, rfl, rfl, by decide +kernel, Or.inr ⟨"SevenPlates", sTn_of 241 (by decide +kernel) rfl⟩⟩
theorem fX2_88 : s_FL RX2 88 2 10 (.int) false := ⟨_, _, _, s_KCX2, by decide, rfl, rfl, by decide +kernel, Or.inl (sT_of 242 (by decide +kernel) rfl)⟩
theorem fX8_141 : s_FL RX8 141 2 10 (.int) false := ⟨_, _, _, s_KCX2, by decide, rfl, rfl, by decide +kernel, Or.inr ⟨"SevenPlates", sTn_of 243 (by decide +kernel) rfl⟩⟩
theorem fX5_32 : s_FL RX5 32 5 0 (.object "SevenPlates$Table") true := ⟨_, _, _, s_KCX5, by decide, rfl, rfl, by decide +kernel, Or.inl (sT_of 275 (by decide +kernel) rfl)⟩
theorem fX5_36 : s_FL RX5 36 5 1 (.object "SevenPlates$Course") true := ⟨_, _, _, s_KCX5, by decide, rfl, rfl, by decide +kernel, Or.inl (sT_of 276 (by decide +kernel) rfl)⟩
theorem fX5_9 : s_FL RX5 9 5 2 (.array .int) true := ⟨_, _, _, s_KCX5, by decide, rfl, rfl, by decide +kernel, Or.inl (sT_of 277 (by decide +kernel) rfl)⟩
theorem fX5_15 : s_FL RX5 15 5 3 (.array .int) true := ⟨_, _, _, s_KCX5, by decide, rfl, rfl, by decide +kernel, Or.inl (sT_of 278 (by decide +kernel) rfl)⟩
theorem fX5_18 : s_FL RX5 18 5 4 (.array .int) true := ⟨_, _, _, s_KCX5, by decide, rfl, rfl, by decide +kernel, Or.inl (sT_of 279 (by decide +kernel) rfl)⟩
theorem fX5_52 : s_FL RX5 52 5 5 (.int) false := ⟨_, _, _, s_KCX5, by decide, rfl, rfl, by decide +kernel, Or.inl (sT_of 280 (by decide +kernel) rfl)⟩
theorem fX8_191 : s_FL RX8 191 5 5 (.int) false := ⟨_, _, _, s_KCX5, by decide, rfl, rfl, by decide +kernel, Or.inr ⟨"SevenPlates", sTn_of 281 (by decide +kernel) rfl⟩⟩
theorem fX5_56 : s_FL RX5 56 5 6 (.int) false := ⟨_, _, _, s_KCX5, by decide, rfl, rfl, by decide +kernel, Or.inl (sT_of 282 (by decide +kernel) rfl)⟩
theorem fX8_192 : s_FL RX8 192 5 6 (.int) false := ⟨_, _, _, s_KCX5, by decide, rfl, rfl, by decide +kernel, Or.inr ⟨"SevenPlates", sTn_of 283 (by decide +kernel) rfl⟩⟩
theorem fX5_59 : s_FL RX5 59 5 7 (.int) false := ⟨_, _, _, s_KCX5, by decide, rfl, rfl, by decide +kernel, Or.inl (sT_of 284 (by decide +kernel) rfl)⟩
theorem fX8_195 : s_FL RX8 195 5 7 (.int) false := ⟨_, _, _, s_KCX5, by decide, rfl, rfl, by decide +kernel, Or.inr ⟨"SevenPlates", sTn_of 285 (by decide +kernel) rfl⟩⟩
theorem fX5_62 : s_FL RX5 62 5 8 (.int) false := ⟨_, _, _, s_KCX5, by decide, rfl, rfl, by decide +kernel, Or.inl (sT_of 286 (by decide +kernel) rfl)⟩
theorem fX8_198 : s_FL RX8 198 5 8 (.int) false := ⟨_, _, _, s_KCX5, by decide, rfl, rfl, by decide +kernel, Or.inr ⟨"SevenPlates", sTn_of 287 (by decide +kernel) rfl⟩⟩
theorem fX5_21 : s_FL RX5 21 5 9 (.array .int) true := ⟨_, _, _, s_KCX5, by decide, rfl, rfl, by decide +kernel, Or.inl (sT_of 288 (by decide +kernel) rfl)⟩
theorem fX5_24 : s_FL RX5 24 5 10 (.array .int) true := ⟨_, _, _, s_KCX5, by decide, rfl, rfl, by decide +kernel, Or.inl (sT_of 289 (by decide +kernel) rfl)⟩
theorem fX8_204 : s_FL RX8 204 5 10 (.array .int) true := ⟨_, _, _, s_KCX5, by decide, rfl, rfl, by decide +kernel, Or.inr ⟨"SevenPlates", sTn_of 290 (by decide +kernel) rfl⟩⟩
theorem fX5_29 : s_FL RX5 29 5 11 (.array (.array .int)) true := ⟨_, _, _, s_KCX5, by decide, rfl, rfl, by decide +kernel, Or.inl (sT_of 291 (by decide +kernel) rfl)⟩
theorem fX0_9 : s_FL RX0 9 0 0 (.object "SevenPlates$Table") true := ⟨_, _, _, s_KCX0, by decide, rfl, rfl, by decide +kernel, Or.inl (sT_of 323 (by decide +kernel) rfl)⟩
theorem fX0_15 : s_FL RX0 15 0 1 (.object "SevenPlates$Course") true := ⟨_, _, _, s_KCX0, by decide, rfl, rfl, by decide +kernel, Or.inl (sT_of 324 (by decide +kernel) rfl)⟩
theorem fX0_48 : s_FL RX0 48 0 2 (.long) false := ⟨_, _, _, s_KCX0, by decide, rfl, rfl, by decide +kernel, Or.inl (sT_of 325 (by decide +kernel) rfl)⟩
theorem fX8_223 : s_FL RX8 223 0 2 (.long) false := ⟨_, _, _, s_KCX0, by decide, rfl, rfl, by decide +kernel, Or.inr ⟨"SevenPlates", sTn_of 326 (by decide +kernel) rfl⟩⟩
theorem fX0_29 : s_FL RX0 29 0 3 (.long) false := ⟨_, _, _, s_KCX0, by decide, rfl, rfl, by decide +kernel, Or.inl (sT_of 327 (by decide +kernel) rfl)⟩
theorem fX8_227 : s_FL RX8 227 0 3 (.long) false := ⟨_, _, _, s_KCX0, by decide, rfl, rfl, by decide +kernel, Or.inr ⟨"SevenPlates", sTn_of 328 (by decide +kernel) rfl⟩⟩
theorem fX3_15 : s_FL RX3 15 3 0 (.object "SevenPlates$Course") true := ⟨_, _, _, s_KCX3, by decide, rfl, rfl, by decide +kernel, Or.inl (sT_of 344 (by decide +kernel) rfl)⟩
theorem fX3_11 : s_FL RX3 11 3 1 (.array .int) true := ⟨_, _, _, s_KCX3, by decide, rfl, rfl, by decide +kernel, Or.inl (sT_of 345 (by decide +kernel) rfl)⟩
theorem fX3_25 : s_FL RX3 25 3 2 (.int) false := ⟨_, _, _, s_KCX3, by decide, rfl, rfl, by decide +kernel, Or.inl (sT_of 346 (by decide +kernel) rfl)⟩
theorem fX7_15 : s_FL RX7 15 7 0 (.object "SevenPlates$Table") true := ⟨_, _, _, s_KCX7, by decide, rfl, rfl, by decide +kernel, Or.inl (sT_of 360 (by decide +kernel) rfl)⟩
theorem fX7_19 : s_FL RX7 19 7 1 (.object "SevenPlates$Course") true := ⟨_, _, _, s_KCX7, by decide, rfl, rfl, by decide +kernel, Or.inl (sT_of 361 (by decide +kernel) rfl)⟩
theorem fX7_9 : s_FL RX7 9 7 2 (.array .int) true := ⟨_, _, _, s_KCX7, by decide, rfl, rfl, by decide +kernel, Or.inl (sT_of 362 (by decide +kernel) rfl)⟩
theorem fX8_10 : s_FL RX8 10 8 0 (.object "SevenPlates$Table") true := ⟨_, _, _, s_KCX8, by decide, rfl, rfl, by decide +kernel, Or.inl (sT_of 370 (by decide +kernel) rfl)⟩
theorem fX8_16 : s_FL RX8 16 8 1 (.array (.object "SevenPlates$Table")) true := ⟨_, _, _, s_KCX8, by decide, rfl, rfl, by decide +kernel, Or.inl (sT_of 371 (by decide +kernel) rfl)⟩
theorem fX8_20 : s_FL RX8 20 8 2 (.array .boolean) true := ⟨_, _, _, s_KCX8, by decide, rfl, rfl, by decide +kernel, Or.inl (sT_of 372 (by decide +kernel) rfl)⟩
theorem fX8_27 : s_FL RX8 27 8 3 (.object "SevenPlates$Pad") true := ⟨_, _, _, s_KCX8, by decide, rfl, rfl, by decide +kernel, Or.inl (sT_of 373 (by decide +kernel) rfl)⟩
theorem fX8_36 : s_FL RX8 36 8 4 (.object "SevenPlates$Course") true := ⟨_, _, _, s_KCX8, by decide, rfl, rfl, by decide +kernel, Or.inl (sT_of 374 (by decide +kernel) rfl)⟩
theorem fX8_45 : s_FL RX8 45 8 5 (.object "SevenPlates$Evening") true := ⟨_, _, _, s_KCX8, by decide, rfl, rfl, by decide +kernel, Or.inl (sT_of 375 (by decide +kernel) rfl)⟩
theorem fX8_52 : s_FL RX8 52 8 6 (.object "SevenPlates$Rows") true := ⟨_, _, _, s_KCX8, by decide, rfl, rfl, by decide +kernel, Or.inl (sT_of 376 (by decide +kernel) rfl)⟩
theorem fX8_59 : s_FL RX8 59 8 7 (.object "SevenPlates$Beliefs") true := ⟨_, _, _, s_KCX8, by decide, rfl, rfl, by decide +kernel, Or.inl (sT_of 377 (by decide +kernel) rfl)⟩
theorem fX8_68 : s_FL RX8 68 8 8 (.object "SevenPlates$Leavings") true := ⟨_, _, _, s_KCX8, by decide, rfl, rfl, by decide +kernel, Or.inl (sT_of 378 (by decide +kernel) rfl)⟩
theorem fX8_75 : s_FL RX8 75 8 9 (.object "SevenPlates$Twos") true := ⟨_, _, _, s_KCX8, by decide, rfl, rfl, by decide +kernel, Or.inl (sT_of 379 (by decide +kernel) rfl)⟩
theorem fX9_84 : s_FL RX9 84 9 0 (.int) false := ⟨_, _, _, s_KCX9, by decide, rfl, rfl, by decide +kernel, Or.inl (sT_of 775 (by decide +kernel) rfl)⟩
theorem fX9_7 : s_FL RX9 7 9 1 (.array .int) true := ⟨_, _, _, s_KCX9, by decide, rfl, rfl, by decide +kernel, Or.inl (sT_of 776 (by decide +kernel) rfl)⟩
theorem fX9_13 : s_FL RX9 13 9 2 (.array .int) true := ⟨_, _, _, s_KCX9, by decide, rfl, rfl, by decide +kernel, Or.inl (sT_of 777 (by decide +kernel) rfl)⟩
theorem fX9_16 : s_FL RX9 16 9 3 (.array .int) true := ⟨_, _, _, s_KCX9, by decide, rfl, rfl, by decide +kernel, Or.inl (sT_of 778 (by decide +kernel) rfl)⟩
theorem fX9_98 : s_FL RX9 98 9 4 (.int) false := ⟨_, _, _, s_KCX9, by decide, rfl, rfl, by decide +kernel, Or.inl (sT_of 779 (by decide +kernel) rfl)⟩
theorem fX9_19 : s_FL RX9 19 9 5 (.array .int) true := ⟨_, _, _, s_KCX9, by decide, rfl, rfl, by decide +kernel, Or.inl (sT_of 780 (by decide +kernel) rfl)⟩
theorem fX9_22 : s_FL RX9 22 9 6 (.array .int) true := ⟨_, _, _, s_KCX9, by decide, rfl, rfl, by decide +kernel, Or.inl (sT_of 781 (by decide +kernel) rfl)⟩
theorem fX9_25 : s_FL RX9 25 9 7 (.array .int) true := ⟨_, _, _, s_KCX9, by decide, rfl, rfl, by decide +kernel, Or.inl (sT_of 782 (by decide +kernel) rfl)⟩
theorem fX9_28 : s_FL RX9 28 9 8 (.array .int) true := ⟨_, _, _, s_KCX9, by decide, rfl, rfl, by decide +kernel, Or.inl (sT_of 783 (by decide +kernel) rfl)⟩
theorem fX9_31 : s_FL RX9 31 9 9 (.array .int) true := ⟨_, _, _, s_KCX9, by decide, rfl, rfl, by decide +kernel, Or.inl (sT_of 784 (by decide +kernel) rfl)⟩
theorem fX9_120 : s_FL RX9 120 9 10 (.int) false := ⟨_, _, _, s_KCX9, by decide, rfl, rfl, by decide +kernel, Or.inl (sT_of 785 (by decide +kernel) rfl)⟩
theorem fX9_127 : s_FL RX9 127 9 11 (.int) false := ⟨_, _, _, s_KCX9, by decide, rfl, rfl, by decide +kernel, Or.inl (sT_of 786 (by decide +kernel) rfl)⟩
theorem fX9_136 : s_FL RX9 136 9 12 (.int) false := ⟨_, _, _, s_KCX9, by decide, rfl, rfl, by decide +kernel, Or.inl (sT_of 787 (by decide +kernel) rfl)⟩
theorem fX9_34 : s_FL RX9 34 9 13 (.array .int) true := ⟨_, _, _, s_KCX9, by decide, rfl, rfl, by decide +kernel, Or.inl (sT_of 788 (by decide +kernel) rfl)⟩
theorem fX9_37 : s_FL RX9 37 9 14 (.array .int) true := ⟨_, _, _, s_KCX9, by decide, rfl, rfl, by decide +kernel, Or.inl (sT_of 789 (by decide +kernel) rfl)⟩
theorem fX9_142 : s_FL RX9 142 9 15 (.int) false := ⟨_, _, _, s_KCX9, by decide, rfl, rfl, by decide +kernel, Or.inl (sT_of 790 (by decide +kernel) rfl)⟩
theorem fX9_145 : s_FL RX9 145 9 16 (.int) false := ⟨_, _, _, s_KCX9, by decide, rfl, rfl, by decide +kernel, Or.inl (sT_of 791 (by decide +kernel) rfl)⟩
theorem fX9_148 : s_FL RX9 148 9 17 (.int) false := ⟨_, _, _, s_KCX9, by decide, rfl, rfl, by decide +kernel, Or.inl (sT_of 792 (by decide +kernel) rfl)⟩
theorem fX9_40 : s_FL RX9 40 9 18 (.array .int) true := ⟨_, _, _, s_KCX9, by decide, rfl, rfl, by decide +kernel, Or.inl (sT_of 793 (by decide +kernel) rfl)⟩
theorem fX9_43 : s_FL RX9 43 9 19 (.array .int) true := ⟨_, _, _, s_KCX9, by decide, rfl, rfl, by decide +kernel, Or.inl (sT_of 794 (by decide +kernel) rfl)⟩
theorem fX9_46 : s_FL RX9 46 9 20 (.array .int) true := ⟨_, _, _, s_KCX9, by decide, rfl, rfl, by decide +kernel, Or.inl (sT_of 795 (by decide +kernel) rfl)⟩
theorem fX9_49 : s_FL RX9 49 9 21 (.array .int) true := ⟨_, _, _, s_KCX9, by decide, rfl, rfl, by decide +kernel, Or.inl (sT_of 796 (by decide +kernel) rfl)⟩
theorem fX9_52 : s_FL RX9 52 9 22 (.array .int) true := ⟨_, _, _, s_KCX9, by decide, rfl, rfl, by decide +kernel, Or.inl (sT_of 797 (by decide +kernel) rfl)⟩
theorem fX9_55 : s_FL RX9 55 9 23 (.array .int) true := ⟨_, _, _, s_KCX9, by decide, rfl, rfl, by decide +kernel, Or.inl (sT_of 798 (by decide +kernel) rfl)⟩
theorem fX9_184 : s_FL RX9 184 9 24 (.int) false := ⟨_, _, _, s_KCX9, by decide, rfl, rfl, by decide +kernel, Or.inl (sT_of 799 (by decide +kernel) rfl)⟩
theorem fX9_187 : s_FL RX9 187 9 25 (.int) false := ⟨_, _, _, s_KCX9, by decide, rfl, rfl, by decide +kernel, Or.inl (sT_of 800 (by decide +kernel) rfl)⟩
theorem fX9_190 : s_FL RX9 190 9 26 (.int) false := ⟨_, _, _, s_KCX9, by decide, rfl, rfl, by decide +kernel, Or.inl (sT_of 801 (by decide +kernel) rfl)⟩
theorem fX9_193 : s_FL RX9 193 9 27 (.int) false := ⟨_, _, _, s_KCX9, by decide, rfl, rfl, by decide +kernel, Or.inl (sT_of 802 (by decide +kernel) rfl)⟩
theorem fX9_196 : s_FL RX9 196 9 28 (.int) false := ⟨_, _, _, s_KCX9, by decide, rfl, rfl, by decide +kernel, Or.inl (sT_of 803 (by decide +kernel) rfl)⟩
theorem fX9_58 : s_FL RX9 58 9 29 (.array .int) true := ⟨_, _, _, s_KCX9, by decide, rfl, rfl, by decide +kernel, Or.inl (sT_of 804 (by decide +kernel) rfl)⟩
theorem fX9_61 : s_FL RX9 61 9 30 (.array .int) true := ⟨_, _, _, s_KCX9, by decide, rfl, rfl, by decide +kernel, Or.inl (sT_of 805 (by decide +kernel) rfl)⟩
theorem fX9_64 : s_FL RX9 64 9 31 (.array .int) true := ⟨_, _, _, s_KCX9, by decide, rfl, rfl, by decide +kernel, Or.inl (sT_of 806 (by decide +kernel) rfl)⟩
theorem fX9_67 : s_FL RX9 67 9 32 (.array .int) true := ⟨_, _, _, s_KCX9, by decide, rfl, rfl, by decide +kernel, Or.inl (sT_of 807 (by decide +kernel) rfl)⟩
theorem fX9_70 : s_FL RX9 70 9 33 (.array .int) true := ⟨_, _, _, s_KCX9, by decide, rfl, rfl, by decide +kernel, Or.inl (sT_of 808 (by decide +kernel) rfl)⟩
theorem fX9_73 : s_FL RX9 73 9 34 (.array .int) true := ⟨_, _, _, s_KCX9, by decide, rfl, rfl, by decide +kernel, Or.inl (sT_of 809 (by decide +kernel) rfl)⟩
theorem fX9_76 : s_FL RX9 76 9 35 (.array .boolean) true := ⟨_, _, _, s_KCX9, by decide, rfl, rfl, by decide +kernel, Or.inl (sT_of 810 (by decide +kernel) rfl)⟩
theorem fX9_274 : s_FL RX9 274 9 36 (.int) false := ⟨_, _, _, s_KCX9, by decide, rfl, rfl, by decide +kernel, Or.inl (sT_of 811 (by decide +kernel) rfl)⟩
theorem fX9_270 : s_FL RX9 270 9 37 (.boolean) false := ⟨_, _, _, s_KCX9, by decide, rfl, rfl, by decide +kernel, Or.inl (sT_of 812 (by decide +kernel) rfl)⟩
abbrev mX8_init : sMI := (yX8_init, cX8_init, 1, none)
theorem kX8_init : s_MF mX8_init 0 := ⟨sT_of 96 (by decide +kernel) rfl, sT_of 78 (by decide +kernel) rfl, by decide +kernel, by decide +kernel, by decide +kernel, by decide +kernel⟩
abbrev mX6_init : sMI := (yX6_init, cX6_init, 1, none)
theorem kX6_init : s_MF mX6_init 0 := ⟨sT_of 104 (by decide +kernel) rfl, sT_of 79 (by decide +kernel) rfl, by decide +kernel, by decide +kernel, by decide +kernel, by decide +kernel⟩
abbrev mX6_asAtFirst : sMI := (yX6_asAtFirst, cX6_asAtFirst, 3, none)
theorem kX6_asAtFirst : s_MF mX6_asAtFirst 1 := ⟨sT_of 109 (by decide +kernel) rfl, sT_of 79 (by decide +kernel) rfl, by decide +kernel, by decide +kernel, by decide +kernel, by decide +kernel⟩
theorem vX6_asAtFirst : s_MV mX6_asAtFirst := ⟨sT_of 108 (by decide +kernel) rfl, sT_of 0 (by decide +kernel) rfl⟩
abbrev mJ7_fill_53178 : sMI := (yJ7_fill_53178, cJ7_fill_53178, 4, none)
theorem kJ7_fill_53178 : s_MF mJ7_fill_53178 2 := ⟨sT_of 112 (by decide +kernel) rfl, sT_of 80 (by decide +kernel) rfl, by decide +kernel, by decide +kernel, by decide +kernel, by decide +kernel⟩
theorem vJ7_fill_53178 : s_MS mJ7_fill_53178 := sT_of 111 (by decide +kernel) rfl
abbrev mX4_init : sMI := (yX4_init, cX4_init, 1, none)
theorem kX4_init : s_MF mX4_init 0 := ⟨sT_of 177 (by decide +kernel) rfl, sT_of 81 (by decide +kernel) rfl, by decide +kernel, by decide +kernel, by decide +kernel, by decide +kernel⟩
abbrev mX1_init : sMI := (yX1_init, cX1_init, 2, none)
theorem kX1_init : s_MF mX1_init 1 := ⟨sT_of 194 (by decide +kernel) rfl, sT_of 82 (by decide +kernel) rfl, by decide +kernel, by decide +kernel, by decide +kernel, by decide +kernel⟩
abbrev mX2_init : sMI := (yX2_init, cX2_init, 3, none)
theorem kX2_init : s_MF mX2_init 2 := ⟨sT_of 222 (by decide +kernel) rfl, sT_of 83 (by decide +kernel) rfl, by decide +kernel, by decide +kernel, by decide +kernel, by decide +kernel⟩
abbrev mX5_init : sMI := (yX5_init, cX5_init, 3, none)
theorem kX5_init : s_MF mX5_init 2 := ⟨sT_of 271 (by decide +kernel) rfl, sT_of 84 (by decide +kernel) rfl, by decide +kernel, by decide +kernel, by decide +kernel, by decide +kernel⟩
abbrev mX0_init : sMI := (yX0_init, cX0_init, 3, none)
theorem kX0_init : s_MF mX0_init 2 := ⟨sT_of 321 (by decide +kernel) rfl, sT_of 85 (by decide +kernel) rfl, by decide +kernel, by decide +kernel, by decide +kernel, by decide +kernel⟩
abbrev mX3_init : sMI := (yX3_init, cX3_init, 2, none)
theorem kX3_init : s_MF mX3_init 1 := ⟨sT_of 342 (by decide +kernel) rfl, sT_of 86 (by decide +kernel) rfl, by decide +kernel, by decide +kernel, by decide +kernel, by decide +kernel⟩
abbrev mX7_init : sMI := (yX7_init, cX7_init, 3, none)
theorem kX7_init : s_MF mX7_init 2 := ⟨sT_of 358 (by decide +kernel) rfl, sT_of 87 (by decide +kernel) rfl, by decide +kernel, by decide +kernel, by decide +kernel, by decide +kernel⟩
abbrev mX8_things : sMI := (yX8_things, cX8_things, 3, some .int)
theorem kX8_things : s_MF mX8_things 1 := ⟨sT_of 404 (by decide +kernel) rfl, sT_of 78 (by decide +kernel) rfl, by decide +kernel, by decide +kernel, by decide +kernel, by decide +kernel⟩
theorem vX8_things : s_MV mX8_things := ⟨sT_of 402 (by decide +kernel) rfl, sT_of 403 (by decide +kernel) rfl⟩
abbrev mX8_thing : sMI := (yX8_thing, cX8_thing, 5, some .int)
theorem kX8_thing : s_MF mX8_thing 3 := ⟨sT_of 409 (by decide +kernel) rfl, sT_of 78 (by decide +kernel) rfl, by decide +kernel, by decide +kernel, by decide +kernel, by decide +kernel⟩
theorem vX8_thing : s_MV mX8_thing := ⟨sT_of 407 (by decide +kernel) rfl, sT_of 408 (by decide +kernel) rfl⟩
abbrev mX6_hasThing : sMI := (yX6_hasThing, cX6_hasThing, 2, some .boolean)
theorem kX6_hasThing : s_MF mX6_hasThing 1 := ⟨sT_of 413 (by decide +kernel) rfl, sT_of 79 (by decide +kernel) rfl, by decide +kernel, by decide +kernel, by decide +kernel, by decide +kernel⟩
theorem vX6_hasThing : s_MV mX6_hasThing := ⟨sT_of 412 (by decide +kernel) rfl, sT_of 1 (by decide +kernel) rfl⟩
abbrev mX6_ofThing : sMI := (yX6_ofThing, cX6_ofThing, 3, some .int)
theorem kX6_ofThing : s_MF mX6_ofThing 2 := ⟨sT_of 417 (by decide +kernel) rfl, sT_of 79 (by decide +kernel) rfl, by decide +kernel, by decide +kernel, by decide +kernel, by decide +kernel⟩
theorem vX6_ofThing : s_MV mX6_ofThing := ⟨sT_of 416 (by decide +kernel) rfl, sT_of 2 (by decide +kernel) rfl⟩
abbrev mX6_change : sMI := (yX6_change, cX6_change, 4, none)
theorem kX6_change : s_MF mX6_change 3 := ⟨sT_of 421 (by decide +kernel) rfl, sT_of 79 (by decide +kernel) rfl, by decide +kernel, by decide +kernel, by decide +kernel, by decide +kernel⟩
theorem vX6_change : s_MV mX6_change := ⟨sT_of 420 (by decide +kernel) rfl, sT_of 3 (by decide +kernel) rfl⟩
abbrev mX8_guest : sMI := (yX8_guest, cX8_guest, 6, some .int)
theorem kX8_guest : s_MF mX8_guest 5 := ⟨sT_of 425 (by decide +kernel) rfl, sT_of 78 (by decide +kernel) rfl, by decide +kernel, by decide +kernel, by decide +kernel, by decide +kernel⟩
theorem vX8_guest : s_MV mX8_guest := ⟨sT_of 423 (by decide +kernel) rfl, sT_of 424 (by decide +kernel) rfl⟩
abbrev mX6_welcome : sMI := (yX6_welcome, cX6_welcome, 6, none)
theorem kX6_welcome : s_MF mX6_welcome 5 := ⟨sT_of 429 (by decide +kernel) rfl, sT_of 79 (by decide +kernel) rfl, by decide +kernel, by decide +kernel, by decide +kernel, by decide +kernel⟩
theorem vX6_welcome : s_MV mX6_welcome := ⟨sT_of 428 (by decide +kernel) rfl, sT_of 4 (by decide +kernel) rfl⟩
abbrev mJ6_bitCount_0f7a4 : sMI := (yJ6_bitCount_0f7a4, cJ6_bitCount_0f7a4, 1, some .int)
theorem kJ6_bitCount_0f7a4 : s_MF mJ6_bitCount_0f7a4 1 := ⟨sT_of 432 (by decide +kernel) rfl, sT_of 89 (by decide +kernel) rfl, by decide +kernel, by decide +kernel, by decide +kernel, by decide +kernel⟩
theorem vJ6_bitCount_0f7a4 : s_MS mJ6_bitCount_0f7a4 := sT_of 431 (by decide +kernel) rfl
abbrev mX8_leave : sMI := (yX8_leave, cX8_leave, 2, some .int)
theorem kX8_leave : s_MF mX8_leave 1 := ⟨sT_of 439 (by decide +kernel) rfl, sT_of 78 (by decide +kernel) rfl, by decide +kernel, by decide +kernel, by decide +kernel, by decide +kernel⟩
theorem vX8_leave : s_MV mX8_leave := ⟨sT_of 437 (by decide +kernel) rfl, sT_of 438 (by decide +kernel) rfl⟩
abbrev mX6_hasGuest : sMI := (yX6_hasGuest, cX6_hasGuest, 2, some .boolean)
theorem kX6_hasGuest : s_MF mX6_hasGuest 1 := ⟨sT_of 443 (by decide +kernel) rfl, sT_of 79 (by decide +kernel) rfl, by decide +kernel, by decide +kernel, by decide +kernel, by decide +kernel⟩
theorem vX6_hasGuest : s_MV mX6_hasGuest := ⟨sT_of 442 (by decide +kernel) rfl, sT_of 5 (by decide +kernel) rfl⟩
abbrev mX8_say : sMI := (yX8_say, cX8_say, 2, some .int)
theorem kX8_say : s_MF mX8_say 1 := ⟨sT_of 447 (by decide +kernel) rfl, sT_of 78 (by decide +kernel) rfl, by decide +kernel, by decide +kernel, by decide +kernel, by decide +kernel⟩
theorem vX8_say : s_MV mX8_say := ⟨sT_of 445 (by decide +kernel) rfl, sT_of 446 (by decide +kernel) rfl⟩
abbrev mX4_add : sMI := (yX4_add, cX4_add, 2, some .int)
theorem kX4_add : s_MF mX4_add 1 := ⟨sT_of 451 (by decide +kernel) rfl, sT_of 81 (by decide +kernel) rfl, by decide +kernel, by decide +kernel, by decide +kernel, by decide +kernel⟩
theorem vX4_add : s_MV mX4_add := ⟨sT_of 450 (by decide +kernel) rfl, sT_of 6 (by decide +kernel) rfl⟩
abbrev mX8_wipe : sMI := (yX8_wipe, cX8_wipe, 2, some .int)
theorem kX8_wipe : s_MF mX8_wipe 0 := ⟨sT_of 455 (by decide +kernel) rfl, sT_of 78 (by decide +kernel) rfl, by decide +kernel, by decide +kernel, by decide +kernel, by decide +kernel⟩
theorem vX8_wipe : s_MV mX8_wipe := ⟨sT_of 453 (by decide +kernel) rfl, sT_of 454 (by decide +kernel) rfl⟩
abbrev mX8_fault : sMI := (yX8_fault, cX8_fault, 1, some .int)
theorem kX8_fault : s_MF mX8_fault 0 := ⟨sT_of 459 (by decide +kernel) rfl, sT_of 78 (by decide +kernel) rfl, by decide +kernel, by decide +kernel, by decide +kernel, by decide +kernel⟩
theorem vX8_fault : s_MV mX8_fault := ⟨sT_of 457 (by decide +kernel) rfl, sT_of 458 (by decide +kernel) rfl⟩
abbrev mX4_firstFault : sMI := (yX4_firstFault, cX4_firstFault, 3, some .int)
theorem kX4_firstFault : s_MF mX4_firstFault 1 := ⟨sT_of 463 (by decide +kernel) rfl, sT_of 81 (by decide +kernel) rfl, by decide +kernel, by decide +kernel, by decide +kernel, by decide +kernel⟩
theorem vX4_firstFault : s_MV mX4_firstFault := ⟨sT_of 462 (by decide +kernel) rfl, sT_of 7 (by decide +kernel) rfl⟩
abbrev mX4_canStand : sMI := (yX4_canStand, cX4_canStand, 2, some .boolean)
theorem kX4_canStand : s_MF mX4_canStand 2 := ⟨sT_of 466 (by decide +kernel) rfl, sT_of 81 (by decide +kernel) rfl, by decide +kernel, by decide +kernel, by decide +kernel, by decide +kernel⟩
theorem vX4_canStand : s_MS mX4_canStand := sT_of 465 (by decide +kernel) rfl
abbrev mX4_isGuest : sMI := (yX4_isGuest, cX4_isGuest, 1, some .boolean)
theorem kX4_isGuest : s_MF mX4_isGuest 1 := ⟨sT_of 469 (by decide +kernel) rfl, sT_of 81 (by decide +kernel) rfl, by decide +kernel, by decide +kernel, by decide +kernel, by decide +kernel⟩
theorem vX4_isGuest : s_MS mX4_isGuest := sT_of 468 (by decide +kernel) rfl
abbrev mX8_judge : sMI := (yX8_judge, cX8_judge, 3, some .int)
theorem kX8_judge : s_MF mX8_judge 1 := ⟨sT_of 473 (by decide +kernel) rfl, sT_of 78 (by decide +kernel) rfl, by decide +kernel, by decide +kernel, by decide +kernel, by decide +kernel⟩
theorem vX8_judge : s_MV mX8_judge := ⟨sT_of 471 (by decide +kernel) rfl, sT_of 472 (by decide +kernel) rfl⟩
abbrev mX8_runEvening : sMI := (yX8_runEvening, cX8_runEvening, 1, some .int)
theorem kX8_runEvening : s_MF mX8_runEvening 0 := ⟨sT_of 477 (by decide +kernel) rfl, sT_of 78 (by decide +kernel) rfl, by decide +kernel, by decide +kernel, by decide +kernel, by decide +kernel⟩
theorem vX8_runEvening : s_MV mX8_runEvening := ⟨sT_of 476 (by decide +kernel) rfl, sT_of 8 (by decide +kernel) rfl⟩
abbrev mX2_run : sMI := (yX2_run, cX2_run, 4, none)
theorem kX2_run : s_MF mX2_run 1 := ⟨sT_of 481 (by decide +kernel) rfl, sT_of 83 (by decide +kernel) rfl, by decide +kernel, by decide +kernel, by decide +kernel, by decide +kernel⟩
theorem vX2_run : s_MV mX2_run := ⟨sT_of 480 (by decide +kernel) rfl, sT_of 9 (by decide +kernel) rfl⟩
abbrev mX2_begin : sMI := (yX2_begin, cX2_begin, 1, none)
theorem kX2_begin : s_MF mX2_begin 0 := ⟨sT_of 485 (by decide +kernel) rfl, sT_of 83 (by decide +kernel) rfl, by decide +kernel, by decide +kernel, by decide +kernel, by decide +kernel⟩
theorem vX2_begin : s_MV mX2_begin := ⟨sT_of 484 (by decide +kernel) rfl, sT_of 10 (by decide +kernel) rfl⟩
abbrev mX1_begin : sMI := (yX1_begin, cX1_begin, 1, none)
theorem kX1_begin : s_MF mX1_begin 0 := ⟨sT_of 489 (by decide +kernel) rfl, sT_of 82 (by decide +kernel) rfl, by decide +kernel, by decide +kernel, by decide +kernel, by decide +kernel⟩
theorem vX1_begin : s_MV mX1_begin := ⟨sT_of 488 (by decide +kernel) rfl, sT_of 11 (by decide +kernel) rfl⟩
abbrev mX2_comes : sMI := (yX2_comes, cX2_comes, 4, none)
theorem kX2_comes : s_MF mX2_comes 2 := ⟨sT_of 499 (by decide +kernel) rfl, sT_of 83 (by decide +kernel) rfl, by decide +kernel, by decide +kernel, by decide +kernel, by decide +kernel⟩
theorem vX2_comes : s_MV mX2_comes := ⟨sT_of 498 (by decide +kernel) rfl, sT_of 12 (by decide +kernel) rfl⟩
abbrev mX2_fail : sMI := (yX2_fail, cX2_fail, 3, none)
theorem kX2_fail : s_MF mX2_fail 2 := ⟨sT_of 504 (by decide +kernel) rfl, sT_of 83 (by decide +kernel) rfl, by decide +kernel, by decide +kernel, by decide +kernel, by decide +kernel⟩
theorem vX2_fail : s_MV mX2_fail := ⟨sT_of 503 (by decide +kernel) rfl, sT_of 13 (by decide +kernel) rfl⟩
abbrev mX1_choice : sMI := (yX1_choice, cX1_choice, 6, some .int)
theorem kX1_choice : s_MF mX1_choice 1 := ⟨sT_of 508 (by decide +kernel) rfl, sT_of 82 (by decide +kernel) rfl, by decide +kernel, by decide +kernel, by decide +kernel, by decide +kernel⟩
theorem vX1_choice : s_MV mX1_choice := ⟨sT_of 507 (by decide +kernel) rfl, sT_of 14 (by decide +kernel) rfl⟩
abbrev mX1_rank : sMI := (yX1_rank, cX1_rank, 3, some .int)
theorem kX1_rank : s_MF mX1_rank 2 := ⟨sT_of 512 (by decide +kernel) rfl, sT_of 82 (by decide +kernel) rfl, by decide +kernel, by decide +kernel, by decide +kernel, by decide +kernel⟩
theorem vX1_rank : s_MV mX1_rank := ⟨sT_of 511 (by decide +kernel) rfl, sT_of 15 (by decide +kernel) rfl⟩
abbrev mX1_use : sMI := (yX1_use, cX1_use, 4, some .int)
theorem kX1_use : s_MF mX1_use 2 := ⟨sT_of 519 (by decide +kernel) rfl, sT_of 82 (by decide +kernel) rfl, by decide +kernel, by decide +kernel, by decide +kernel, by decide +kernel⟩
theorem vX1_use : s_MV mX1_use := ⟨sT_of 518 (by decide +kernel) rfl, sT_of 16 (by decide +kernel) rfl⟩
abbrev mX1_bite : sMI := (yX1_bite, cX1_bite, 3, some .int)
theorem kX1_bite : s_MF mX1_bite 2 := ⟨sT_of 523 (by decide +kernel) rfl, sT_of 82 (by decide +kernel) rfl, by decide +kernel, by decide +kernel, by decide +kernel, by decide +kernel⟩
theorem vX1_bite : s_MV mX1_bite := ⟨sT_of 522 (by decide +kernel) rfl, sT_of 17 (by decide +kernel) rfl⟩
abbrev mX2_cool : sMI := (yX2_cool, cX2_cool, 2, none)
theorem kX2_cool : s_MF mX2_cool 0 := ⟨sT_of 530 (by decide +kernel) rfl, sT_of 83 (by decide +kernel) rfl, by decide +kernel, by decide +kernel, by decide +kernel, by decide +kernel⟩
theorem vX2_cool : s_MV mX2_cool := ⟨sT_of 529 (by decide +kernel) rfl, sT_of 18 (by decide +kernel) rfl⟩
abbrev mX2_fill : sMI := (yX2_fill, cX2_fill, 2, none)
theorem kX2_fill : s_MF mX2_fill 1 := ⟨sT_of 537 (by decide +kernel) rfl, sT_of 83 (by decide +kernel) rfl, by decide +kernel, by decide +kernel, by decide +kernel, by decide +kernel⟩
theorem vX2_fill : s_MV mX2_fill := ⟨sT_of 536 (by decide +kernel) rfl, sT_of 19 (by decide +kernel) rfl⟩
abbrev mX8_used : sMI := (yX8_used, cX8_used, 3, some .int)
theorem kX8_used : s_MF mX8_used 1 := ⟨sT_of 542 (by decide +kernel) rfl, sT_of 78 (by decide +kernel) rfl, by decide +kernel, by decide +kernel, by decide +kernel, by decide +kernel⟩
theorem vX8_used : s_MV mX8_used := ⟨sT_of 540 (by decide +kernel) rfl, sT_of 541 (by decide +kernel) rfl⟩
abbrev mX8_behind : sMI := (yX8_behind, cX8_behind, 4, some .int)
theorem kX8_behind : s_MF mX8_behind 2 := ⟨sT_of 546 (by decide +kernel) rfl, sT_of 78 (by decide +kernel) rfl, by decide +kernel, by decide +kernel, by decide +kernel, by decide +kernel⟩
theorem vX8_behind : s_MV mX8_behind := ⟨sT_of 544 (by decide +kernel) rfl, sT_of 545 (by decide +kernel) rfl⟩
abbrev mX8_done : sMI := (yX8_done, cX8_done, 3, some .int)
theorem kX8_done : s_MF mX8_done 0 := ⟨sT_of 550 (by decide +kernel) rfl, sT_of 78 (by decide +kernel) rfl, by decide +kernel, by decide +kernel, by decide +kernel, by decide +kernel⟩
theorem vX8_done : s_MV mX8_done := ⟨sT_of 548 (by decide +kernel) rfl, sT_of 549 (by decide +kernel) rfl⟩
abbrev mX8_state : sMI := (yX8_state, cX8_state, 3, some .int)
theorem kX8_state : s_MF mX8_state 2 := ⟨sT_of 555 (by decide +kernel) rfl, sT_of 78 (by decide +kernel) rfl, by decide +kernel, by decide +kernel, by decide +kernel, by decide +kernel⟩
theorem vX8_state : s_MV mX8_state := ⟨sT_of 553 (by decide +kernel) rfl, sT_of 554 (by decide +kernel) rfl⟩
abbrev mX8_eats : sMI := (yX8_eats, cX8_eats, 2, some .int)
theorem kX8_eats : s_MF mX8_eats 1 := ⟨sT_of 559 (by decide +kernel) rfl, sT_of 78 (by decide +kernel) rfl, by decide +kernel, by decide +kernel, by decide +kernel, by decide +kernel⟩
theorem vX8_eats : s_MV mX8_eats := ⟨sT_of 557 (by decide +kernel) rfl, sT_of 558 (by decide +kernel) rfl⟩
abbrev mX8_seen : sMI := (yX8_seen, cX8_seen, 3, some .int)
theorem kX8_seen : s_MF mX8_seen 2 := ⟨sT_of 565 (by decide +kernel) rfl, sT_of 78 (by decide +kernel) rfl, by decide +kernel, by decide +kernel, by decide +kernel, by decide +kernel⟩
theorem vX8_seen : s_MV mX8_seen := ⟨sT_of 563 (by decide +kernel) rfl, sT_of 564 (by decide +kernel) rfl⟩
abbrev mX6_sightBits : sMI := (yX6_sightBits, cX6_sightBits, 3, some .int)
theorem kX6_sightBits : s_MF mX6_sightBits 0 := ⟨sT_of 569 (by decide +kernel) rfl, sT_of 79 (by decide +kernel) rfl, by decide +kernel, by decide +kernel, by decide +kernel, by decide +kernel⟩
theorem vX6_sightBits : s_MV mX6_sightBits := ⟨sT_of 568 (by decide +kernel) rfl, sT_of 20 (by decide +kernel) rfl⟩
abbrev mX8_forget : sMI := (yX8_forget, cX8_forget, 2, some .int)
theorem kX8_forget : s_MF mX8_forget 0 := ⟨sT_of 573 (by decide +kernel) rfl, sT_of 78 (by decide +kernel) rfl, by decide +kernel, by decide +kernel, by decide +kernel, by decide +kernel⟩
theorem vX8_forget : s_MV mX8_forget := ⟨sT_of 571 (by decide +kernel) rfl, sT_of 572 (by decide +kernel) rfl⟩
abbrev mX8_rows : sMI := (yX8_rows, cX8_rows, 3, some .int)
theorem kX8_rows : s_MF mX8_rows 2 := ⟨sT_of 578 (by decide +kernel) rfl, sT_of 78 (by decide +kernel) rfl, by decide +kernel, by decide +kernel, by decide +kernel, by decide +kernel⟩
theorem vX8_rows : s_MV mX8_rows := ⟨sT_of 576 (by decide +kernel) rfl, sT_of 577 (by decide +kernel) rfl⟩
abbrev mX8_isRowLength : sMI := (yX8_isRowLength, cX8_isRowLength, 1, some .boolean)
theorem kX8_isRowLength : s_MF mX8_isRowLength 1 := ⟨sT_of 581 (by decide +kernel) rfl, sT_of 78 (by decide +kernel) rfl, by decide +kernel, by decide +kernel, by decide +kernel, by decide +kernel⟩
theorem vX8_isRowLength : s_MS mX8_isRowLength := sT_of 580 (by decide +kernel) rfl
abbrev mX5_gather : sMI := (yX5_gather, cX5_gather, 4, none)
theorem kX5_gather : s_MF mX5_gather 2 := ⟨sT_of 585 (by decide +kernel) rfl, sT_of 84 (by decide +kernel) rfl, by decide +kernel, by decide +kernel, by decide +kernel, by decide +kernel⟩
theorem vX5_gather : s_MV mX5_gather := ⟨sT_of 584 (by decide +kernel) rfl, sT_of 21 (by decide +kernel) rfl⟩
abbrev mX5_walk : sMI := (yX5_walk, cX5_walk, 10, none)
theorem kX5_walk : s_MF mX5_walk 3 := ⟨sT_of 593 (by decide +kernel) rfl, sT_of 84 (by decide +kernel) rfl, by decide +kernel, by decide +kernel, by decide +kernel, by decide +kernel⟩
theorem vX5_walk : s_MV mX5_walk := ⟨sT_of 592 (by decide +kernel) rfl, sT_of 22 (by decide +kernel) rfl⟩
abbrev mX1_stillToEat : sMI := (yX1_stillToEat, cX1_stillToEat, 4, some .int)
theorem kX1_stillToEat : s_MF mX1_stillToEat 1 := ⟨sT_of 597 (by decide +kernel) rfl, sT_of 82 (by decide +kernel) rfl, by decide +kernel, by decide +kernel, by decide +kernel, by decide +kernel⟩
theorem vX1_stillToEat : s_MV mX1_stillToEat := ⟨sT_of 596 (by decide +kernel) rfl, sT_of 23 (by decide +kernel) rfl⟩
abbrev mX5_note : sMI := (yX5_note, cX5_note, 4, none)
theorem kX5_note : s_MF mX5_note 2 := ⟨sT_of 601 (by decide +kernel) rfl, sT_of 84 (by decide +kernel) rfl, by decide +kernel, by decide +kernel, by decide +kernel, by decide +kernel⟩
theorem vX5_note : s_MV mX5_note := ⟨sT_of 600 (by decide +kernel) rfl, sT_of 24 (by decide +kernel) rfl⟩
abbrev mX1_takeBack : sMI := (yX1_takeBack, cX1_takeBack, 4, none)
theorem kX1_takeBack : s_MF mX1_takeBack 3 := ⟨sT_of 608 (by decide +kernel) rfl, sT_of 82 (by decide +kernel) rfl, by decide +kernel, by decide +kernel, by decide +kernel, by decide +kernel⟩
theorem vX1_takeBack : s_MV mX1_takeBack := ⟨sT_of 607 (by decide +kernel) rfl, sT_of 25 (by decide +kernel) rfl⟩
abbrev mX5_atPlace : sMI := (yX5_atPlace, cX5_atPlace, 2, some .int)
theorem kX5_atPlace : s_MF mX5_atPlace 1 := ⟨sT_of 612 (by decide +kernel) rfl, sT_of 84 (by decide +kernel) rfl, by decide +kernel, by decide +kernel, by decide +kernel, by decide +kernel⟩
theorem vX5_atPlace : s_MV mX5_atPlace := ⟨sT_of 611 (by decide +kernel) rfl, sT_of 26 (by decide +kernel) rfl⟩
abbrev mX8_cup : sMI := (yX8_cup, cX8_cup, 3, some .int)
theorem kX8_cup : s_MF mX8_cup 2 := ⟨sT_of 616 (by decide +kernel) rfl, sT_of 78 (by decide +kernel) rfl, by decide +kernel, by decide +kernel, by decide +kernel, by decide +kernel⟩
theorem vX8_cup : s_MV mX8_cup := ⟨sT_of 614 (by decide +kernel) rfl, sT_of 615 (by decide +kernel) rfl⟩
abbrev mX8_look : sMI := (yX8_look, cX8_look, 4, some .int)
theorem kX8_look : s_MF mX8_look 2 := ⟨sT_of 620 (by decide +kernel) rfl, sT_of 78 (by decide +kernel) rfl, by decide +kernel, by decide +kernel, by decide +kernel, by decide +kernel⟩
theorem vX8_look : s_MV mX8_look := ⟨sT_of 618 (by decide +kernel) rfl, sT_of 619 (by decide +kernel) rfl⟩
abbrev mX5_bestToLookAt : sMI := (yX5_bestToLookAt, cX5_bestToLookAt, 5, some .int)
theorem kX5_bestToLookAt : s_MF mX5_bestToLookAt 0 := ⟨sT_of 624 (by decide +kernel) rfl, sT_of 84 (by decide +kernel) rfl, by decide +kernel, by decide +kernel, by decide +kernel, by decide +kernel⟩
theorem vX5_bestToLookAt : s_MV mX5_bestToLookAt := ⟨sT_of 623 (by decide +kernel) rfl, sT_of 27 (by decide +kernel) rfl⟩
abbrev mX5_mostLeftOver : sMI := (yX5_mostLeftOver, cX5_mostLeftOver, 4, some .int)
theorem kX5_mostLeftOver : s_MF mX5_mostLeftOver 1 := ⟨sT_of 628 (by decide +kernel) rfl, sT_of 84 (by decide +kernel) rfl, by decide +kernel, by decide +kernel, by decide +kernel, by decide +kernel⟩
theorem vX5_mostLeftOver : s_MV mX5_mostLeftOver := ⟨sT_of 627 (by decide +kernel) rfl, sT_of 28 (by decide +kernel) rfl⟩
abbrev mX8_belief : sMI := (yX8_belief, cX8_belief, 4, some .long)
theorem kX8_belief : s_MF mX8_belief 3 := ⟨sT_of 634 (by decide +kernel) rfl, sT_of 78 (by decide +kernel) rfl, by decide +kernel, by decide +kernel, by decide +kernel, by decide +kernel⟩
theorem vX8_belief : s_MV mX8_belief := ⟨sT_of 632 (by decide +kernel) rfl, sT_of 633 (by decide +kernel) rfl⟩
abbrev mX0_weigh : sMI := (yX0_weigh, cX0_weigh, 5, none)
theorem kX0_weigh : s_MF mX0_weigh 2 := ⟨sT_of 641 (by decide +kernel) rfl, sT_of 85 (by decide +kernel) rfl, by decide +kernel, by decide +kernel, by decide +kernel, by decide +kernel⟩
theorem vX0_weigh : s_MV mX0_weigh := ⟨sT_of 640 (by decide +kernel) rfl, sT_of 29 (by decide +kernel) rfl⟩
abbrev mX0_ways : sMI := (yX0_ways, cX0_ways, 10, some .long)
theorem kX0_ways : s_MF mX0_ways 2 := ⟨sT_of 648 (by decide +kernel) rfl, sT_of 85 (by decide +kernel) rfl, by decide +kernel, by decide +kernel, by decide +kernel, by decide +kernel⟩
theorem vX0_ways : s_MV mX0_ways := ⟨sT_of 647 (by decide +kernel) rfl, sT_of 30 (by decide +kernel) rfl⟩
abbrev mX1_visit : sMI := (yX1_visit, cX1_visit, 3, some .int)
theorem kX1_visit : s_MF mX1_visit 1 := ⟨sT_of 653 (by decide +kernel) rfl, sT_of 82 (by decide +kernel) rfl, by decide +kernel, by decide +kernel, by decide +kernel, by decide +kernel⟩
theorem vX1_visit : s_MV mX1_visit := ⟨sT_of 652 (by decide +kernel) rfl, sT_of 31 (by decide +kernel) rfl⟩
abbrev mX0_reduce : sMI := (yX0_reduce, cX0_reduce, 8, none)
theorem kX0_reduce : s_MF mX0_reduce 0 := ⟨sT_of 661 (by decide +kernel) rfl, sT_of 85 (by decide +kernel) rfl, by decide +kernel, by decide +kernel, by decide +kernel, by decide +kernel⟩
theorem vX0_reduce : s_MV mX0_reduce := ⟨sT_of 660 (by decide +kernel) rfl, sT_of 32 (by decide +kernel) rfl⟩
abbrev mX8_alike : sMI := (yX8_alike, cX8_alike, 2, some .int)
theorem kX8_alike : s_MF mX8_alike 1 := ⟨sT_of 665 (by decide +kernel) rfl, sT_of 78 (by decide +kernel) rfl, by decide +kernel, by decide +kernel, by decide +kernel, by decide +kernel⟩
theorem vX8_alike : s_MV mX8_alike := ⟨sT_of 663 (by decide +kernel) rfl, sT_of 664 (by decide +kernel) rfl⟩
abbrev mX7_howMany : sMI := (yX7_howMany, cX7_howMany, 4, some .int)
theorem kX7_howMany : s_MF mX7_howMany 0 := ⟨sT_of 669 (by decide +kernel) rfl, sT_of 87 (by decide +kernel) rfl, by decide +kernel, by decide +kernel, by decide +kernel, by decide +kernel⟩
theorem vX7_howMany : s_MV mX7_howMany := ⟨sT_of 668 (by decide +kernel) rfl, sT_of 33 (by decide +kernel) rfl⟩
abbrev mX7_areAlike : sMI := (yX7_areAlike, cX7_areAlike, 3, some .boolean)
theorem kX7_areAlike : s_MF mX7_areAlike 2 := ⟨sT_of 676 (by decide +kernel) rfl, sT_of 87 (by decide +kernel) rfl, by decide +kernel, by decide +kernel, by decide +kernel, by decide +kernel⟩
theorem vX7_areAlike : s_MV mX7_areAlike := ⟨sT_of 675 (by decide +kernel) rfl, sT_of 34 (by decide +kernel) rfl⟩
abbrev mX7_atPlace : sMI := (yX7_atPlace, cX7_atPlace, 5, some .int)
theorem kX7_atPlace : s_MF mX7_atPlace 1 := ⟨sT_of 680 (by decide +kernel) rfl, sT_of 87 (by decide +kernel) rfl, by decide +kernel, by decide +kernel, by decide +kernel, by decide +kernel⟩
theorem vX7_atPlace : s_MV mX7_atPlace := ⟨sT_of 679 (by decide +kernel) rfl, sT_of 35 (by decide +kernel) rfl⟩
abbrev mX8_lay : sMI := (yX8_lay, cX8_lay, 3, some .int)
theorem kX8_lay : s_MF mX8_lay 1 := ⟨sT_of 685 (by decide +kernel) rfl, sT_of 78 (by decide +kernel) rfl, by decide +kernel, by decide +kernel, by decide +kernel, by decide +kernel⟩
theorem vX8_lay : s_MV mX8_lay := ⟨sT_of 683 (by decide +kernel) rfl, sT_of 684 (by decide +kernel) rfl⟩
abbrev mX7_fewestLaidAnew : sMI := (yX7_fewestLaidAnew, cX7_fewestLaidAnew, 3, some .int)
theorem kX7_fewestLaidAnew : s_MF mX7_fewestLaidAnew 0 := ⟨sT_of 689 (by decide +kernel) rfl, sT_of 87 (by decide +kernel) rfl, by decide +kernel, by decide +kernel, by decide +kernel, by decide +kernel⟩
theorem vX7_fewestLaidAnew : s_MV mX7_fewestLaidAnew := ⟨sT_of 688 (by decide +kernel) rfl, sT_of 36 (by decide +kernel) rfl⟩
abbrev mX7_helps : sMI := (yX7_helps, cX7_helps, 6, some .boolean)
theorem kX7_helps : s_MF mX7_helps 2 := ⟨sT_of 693 (by decide +kernel) rfl, sT_of 87 (by decide +kernel) rfl, by decide +kernel, by decide +kernel, by decide +kernel, by decide +kernel⟩
theorem vX7_helps : s_MV mX7_helps := ⟨sT_of 692 (by decide +kernel) rfl, sT_of 37 (by decide +kernel) rfl⟩
abbrev mX8_hide : sMI := (yX8_hide, cX8_hide, 4, some .int)
theorem kX8_hide : s_MF mX8_hide 0 := ⟨sT_of 697 (by decide +kernel) rfl, sT_of 78 (by decide +kernel) rfl, by decide +kernel, by decide +kernel, by decide +kernel, by decide +kernel⟩
theorem vX8_hide : s_MV mX8_hide := ⟨sT_of 695 (by decide +kernel) rfl, sT_of 696 (by decide +kernel) rfl⟩
abbrev mX8_trace : sMI := (yX8_trace, cX8_trace, 2, some .int)
theorem kX8_trace : s_MF mX8_trace 0 := ⟨sT_of 701 (by decide +kernel) rfl, sT_of 78 (by decide +kernel) rfl, by decide +kernel, by decide +kernel, by decide +kernel, by decide +kernel⟩
theorem vX8_trace : s_MV mX8_trace := ⟨sT_of 699 (by decide +kernel) rfl, sT_of 700 (by decide +kernel) rfl⟩
abbrev mX8_lock : sMI := (yX8_lock, cX8_lock, 3, some .int)
theorem kX8_lock : s_MF mX8_lock 2 := ⟨sT_of 705 (by decide +kernel) rfl, sT_of 78 (by decide +kernel) rfl, by decide +kernel, by decide +kernel, by decide +kernel, by decide +kernel⟩
theorem vX8_lock : s_MV mX8_lock := ⟨sT_of 703 (by decide +kernel) rfl, sT_of 704 (by decide +kernel) rfl⟩
abbrev mX3_howMany : sMI := (yX3_howMany, cX3_howMany, 2, some .int)
theorem kX3_howMany : s_MF mX3_howMany 1 := ⟨sT_of 709 (by decide +kernel) rfl, sT_of 86 (by decide +kernel) rfl, by decide +kernel, by decide +kernel, by decide +kernel, by decide +kernel⟩
theorem vX3_howMany : s_MV mX3_howMany := ⟨sT_of 708 (by decide +kernel) rfl, sT_of 38 (by decide +kernel) rfl⟩
abbrev mX3_walk : sMI := (yX3_walk, cX3_walk, 6, none)
theorem kX3_walk : s_MF mX3_walk 1 := ⟨sT_of 715 (by decide +kernel) rfl, sT_of 86 (by decide +kernel) rfl, by decide +kernel, by decide +kernel, by decide +kernel, by decide +kernel⟩
theorem vX3_walk : s_MV mX3_walk := ⟨sT_of 714 (by decide +kernel) rfl, sT_of 39 (by decide +kernel) rfl⟩
abbrev mX1_asNumber : sMI := (yX1_asNumber, cX1_asNumber, 3, some .int)
theorem kX1_asNumber : s_MF mX1_asNumber 0 := ⟨sT_of 719 (by decide +kernel) rfl, sT_of 82 (by decide +kernel) rfl, by decide +kernel, by decide +kernel, by decide +kernel, by decide +kernel⟩
theorem vX1_asNumber : s_MV mX1_asNumber := ⟨sT_of 718 (by decide +kernel) rfl, sT_of 40 (by decide +kernel) rfl⟩
abbrev mX3_put : sMI := (yX3_put, cX3_put, 4, none)
theorem kX3_put : s_MF mX3_put 1 := ⟨sT_of 723 (by decide +kernel) rfl, sT_of 86 (by decide +kernel) rfl, by decide +kernel, by decide +kernel, by decide +kernel, by decide +kernel⟩
theorem vX3_put : s_MV mX3_put := ⟨sT_of 722 (by decide +kernel) rfl, sT_of 41 (by decide +kernel) rfl⟩
abbrev mX8_year : sMI := (yX8_year, cX8_year, 12, some .int)
theorem kX8_year : s_MF mX8_year 3 := ⟨sT_of 730 (by decide +kernel) rfl, sT_of 78 (by decide +kernel) rfl, by decide +kernel, by decide +kernel, by decide +kernel, by decide +kernel⟩
theorem vX8_year : s_MV mX8_year := ⟨sT_of 728 (by decide +kernel) rfl, sT_of 729 (by decide +kernel) rfl⟩
abbrev mX8_image : sMI := (yX8_image, cX8_image, 2, some .int)
theorem kX8_image : s_MF mX8_image 1 := ⟨sT_of 736 (by decide +kernel) rfl, sT_of 78 (by decide +kernel) rfl, by decide +kernel, by decide +kernel, by decide +kernel, by decide +kernel⟩
theorem vX8_image : s_MV mX8_image := ⟨sT_of 734 (by decide +kernel) rfl, sT_of 735 (by decide +kernel) rfl⟩
abbrev mX6_copyFrom : sMI := (yX6_copyFrom, cX6_copyFrom, 2, none)
theorem kX6_copyFrom : s_MF mX6_copyFrom 1 := ⟨sT_of 740 (by decide +kernel) rfl, sT_of 79 (by decide +kernel) rfl, by decide +kernel, by decide +kernel, by decide +kernel, by decide +kernel⟩
theorem vX6_copyFrom : s_MV mX6_copyFrom := ⟨sT_of 739 (by decide +kernel) rfl, sT_of 42 (by decide +kernel) rfl⟩
abbrev mX8_restore : sMI := (yX8_restore, cX8_restore, 2, some .int)
theorem kX8_restore : s_MF mX8_restore 1 := ⟨sT_of 745 (by decide +kernel) rfl, sT_of 78 (by decide +kernel) rfl, by decide +kernel, by decide +kernel, by decide +kernel, by decide +kernel⟩
theorem vX8_restore : s_MV mX8_restore := ⟨sT_of 743 (by decide +kernel) rfl, sT_of 744 (by decide +kernel) rfl⟩
abbrev mX8_told : sMI := (yX8_told, cX8_told, 2, some .int)
theorem kX8_told : s_MF mX8_told 1 := ⟨sT_of 749 (by decide +kernel) rfl, sT_of 78 (by decide +kernel) rfl, by decide +kernel, by decide +kernel, by decide +kernel, by decide +kernel⟩
theorem vX8_told : s_MV mX8_told := ⟨sT_of 747 (by decide +kernel) rfl, sT_of 748 (by decide +kernel) rfl⟩
abbrev mX8_toldOfGuest : sMI := (yX8_toldOfGuest, cX8_toldOfGuest, 3, some .int)
theorem kX8_toldOfGuest : s_MF mX8_toldOfGuest 2 := ⟨sT_of 753 (by decide +kernel) rfl, sT_of 78 (by decide +kernel) rfl, by decide +kernel, by decide +kernel, by decide +kernel, by decide +kernel⟩
theorem vX8_toldOfGuest : s_MV mX8_toldOfGuest := ⟨sT_of 752 (by decide +kernel) rfl, sT_of 43 (by decide +kernel) rfl⟩
abbrev mX6_ofGuest : sMI := (yX6_ofGuest, cX6_ofGuest, 3, some .int)
theorem kX6_ofGuest : s_MF mX6_ofGuest 2 := ⟨sT_of 757 (by decide +kernel) rfl, sT_of 79 (by decide +kernel) rfl, by decide +kernel, by decide +kernel, by decide +kernel, by decide +kernel⟩
theorem vX6_ofGuest : s_MV mX6_ofGuest := ⟨sT_of 756 (by decide +kernel) rfl, sT_of 44 (by decide +kernel) rfl⟩
abbrev mX8_toldOfThing : sMI := (yX8_toldOfThing, cX8_toldOfThing, 3, some .int)
theorem kX8_toldOfThing : s_MF mX8_toldOfThing 2 := ⟨sT_of 761 (by decide +kernel) rfl, sT_of 78 (by decide +kernel) rfl, by decide +kernel, by decide +kernel, by decide +kernel, by decide +kernel⟩
theorem vX8_toldOfThing : s_MV mX8_toldOfThing := ⟨sT_of 760 (by decide +kernel) rfl, sT_of 45 (by decide +kernel) rfl⟩
abbrev mX9_init : sMI := (yX9_init, cX9_init, 1, none)
theorem kX9_init : s_MF mX9_init 0 := ⟨sT_of 766 (by decide +kernel) rfl, sT_of 88 (by decide +kernel) rfl, by decide +kernel, by decide +kernel, by decide +kernel, by decide +kernel⟩
abbrev mX9_begin : sMI := (yX9_begin, cX9_begin, 3, none)
theorem kX9_begin : s_MF mX9_begin 1 := ⟨sT_of 771 (by decide +kernel) rfl, sT_of 88 (by decide +kernel) rfl, by decide +kernel, by decide +kernel, by decide +kernel, by decide +kernel⟩
theorem vX9_begin : s_MV mX9_begin := ⟨sT_of 770 (by decide +kernel) rfl, sT_of 46 (by decide +kernel) rfl⟩
abbrev mX9_at : sMI := (yX9_at, cX9_at, 2, some .int)
theorem kX9_at : s_MF mX9_at 2 := ⟨sT_of 774 (by decide +kernel) rfl, sT_of 88 (by decide +kernel) rfl, by decide +kernel, by decide +kernel, by decide +kernel, by decide +kernel⟩
theorem vX9_at : s_MS mX9_at := sT_of 773 (by decide +kernel) rfl
abbrev mX9_things : sMI := (yX9_things, cX9_things, 3, some .int)
theorem kX9_things : s_MF mX9_things 1 := ⟨sT_of 893 (by decide +kernel) rfl, sT_of 88 (by decide +kernel) rfl, by decide +kernel, by decide +kernel, by decide +kernel, by decide +kernel⟩
theorem vX9_things : s_MV mX9_things := ⟨sT_of 891 (by decide +kernel) rfl, sT_of 892 (by decide +kernel) rfl⟩
abbrev mX9_in : sMI := (yX9_in, cX9_in, 6, some .boolean)
theorem kX9_in : s_MF mX9_in 3 := ⟨sT_of 897 (by decide +kernel) rfl, sT_of 88 (by decide +kernel) rfl, by decide +kernel, by decide +kernel, by decide +kernel, by decide +kernel⟩
theorem vX9_in : s_MS mX9_in := sT_of 896 (by decide +kernel) rfl
abbrev mX9_thing : sMI := (yX9_thing, cX9_thing, 5, some .int)
theorem kX9_thing : s_MF mX9_thing 3 := ⟨sT_of 901 (by decide +kernel) rfl, sT_of 88 (by decide +kernel) rfl, by decide +kernel, by decide +kernel, by decide +kernel, by decide +kernel⟩
theorem vX9_thing : s_MV mX9_thing := ⟨sT_of 899 (by decide +kernel) rfl, sT_of 900 (by decide +kernel) rfl⟩
abbrev mX9_isThing : sMI := (yX9_isThing, cX9_isThing, 2, some .boolean)
theorem kX9_isThing : s_MF mX9_isThing 1 := ⟨sT_of 905 (by decide +kernel) rfl, sT_of 88 (by decide +kernel) rfl, by decide +kernel, by decide +kernel, by decide +kernel, by decide +kernel⟩
theorem vX9_isThing : s_MV mX9_isThing := ⟨sT_of 904 (by decide +kernel) rfl, sT_of 47 (by decide +kernel) rfl⟩
abbrev mX9_guest : sMI := (yX9_guest, cX9_guest, 6, some .int)
theorem kX9_guest : s_MF mX9_guest 5 := ⟨sT_of 911 (by decide +kernel) rfl, sT_of 88 (by decide +kernel) rfl, by decide +kernel, by decide +kernel, by decide +kernel, by decide +kernel⟩
theorem vX9_guest : s_MV mX9_guest := ⟨sT_of 909 (by decide +kernel) rfl, sT_of 910 (by decide +kernel) rfl⟩
abbrev mX9_ones : sMI := (yX9_ones, cX9_ones, 3, some .int)
theorem kX9_ones : s_MF mX9_ones 1 := ⟨sT_of 914 (by decide +kernel) rfl, sT_of 88 (by decide +kernel) rfl, by decide +kernel, by decide +kernel, by decide +kernel, by decide +kernel⟩
theorem vX9_ones : s_MS mX9_ones := sT_of 913 (by decide +kernel) rfl
abbrev mX9_leave : sMI := (yX9_leave, cX9_leave, 2, some .int)
theorem kX9_leave : s_MF mX9_leave 1 := ⟨sT_of 918 (by decide +kernel) rfl, sT_of 88 (by decide +kernel) rfl, by decide +kernel, by decide +kernel, by decide +kernel, by decide +kernel⟩
theorem vX9_leave : s_MV mX9_leave := ⟨sT_of 916 (by decide +kernel) rfl, sT_of 917 (by decide +kernel) rfl⟩
abbrev mX9_isThere : sMI := (yX9_isThere, cX9_isThere, 2, some .boolean)
theorem kX9_isThere : s_MF mX9_isThere 1 := ⟨sT_of 922 (by decide +kernel) rfl, sT_of 88 (by decide +kernel) rfl, by decide +kernel, by decide +kernel, by decide +kernel, by decide +kernel⟩
theorem vX9_isThere : s_MV mX9_isThere := ⟨sT_of 921 (by decide +kernel) rfl, sT_of 48 (by decide +kernel) rfl⟩
abbrev mX9_say : sMI := (yX9_say, cX9_say, 2, some .int)
theorem kX9_say : s_MF mX9_say 1 := ⟨sT_of 926 (by decide +kernel) rfl, sT_of 88 (by decide +kernel) rfl, by decide +kernel, by decide +kernel, by decide +kernel, by decide +kernel⟩
theorem vX9_say : s_MV mX9_say := ⟨sT_of 924 (by decide +kernel) rfl, sT_of 925 (by decide +kernel) rfl⟩
abbrev mX9_wipe : sMI := (yX9_wipe, cX9_wipe, 2, some .int)
theorem kX9_wipe : s_MF mX9_wipe 0 := ⟨sT_of 932 (by decide +kernel) rfl, sT_of 88 (by decide +kernel) rfl, by decide +kernel, by decide +kernel, by decide +kernel, by decide +kernel⟩
theorem vX9_wipe : s_MV mX9_wipe := ⟨sT_of 930 (by decide +kernel) rfl, sT_of 931 (by decide +kernel) rfl⟩
abbrev mX9_fault : sMI := (yX9_fault, cX9_fault, 3, some .int)
theorem kX9_fault : s_MF mX9_fault 0 := ⟨sT_of 936 (by decide +kernel) rfl, sT_of 88 (by decide +kernel) rfl, by decide +kernel, by decide +kernel, by decide +kernel, by decide +kernel⟩
theorem vX9_fault : s_MV mX9_fault := ⟨sT_of 934 (by decide +kernel) rfl, sT_of 935 (by decide +kernel) rfl⟩
abbrev mX9_judge : sMI := (yX9_judge, cX9_judge, 3, some .int)
theorem kX9_judge : s_MF mX9_judge 1 := ⟨sT_of 942 (by decide +kernel) rfl, sT_of 88 (by decide +kernel) rfl, by decide +kernel, by decide +kernel, by decide +kernel, by decide +kernel⟩
theorem vX9_judge : s_MV mX9_judge := ⟨sT_of 940 (by decide +kernel) rfl, sT_of 941 (by decide +kernel) rfl⟩
abbrev mX9_refusal : sMI := (yX9_refusal, cX9_refusal, 2, some .int)
theorem kX9_refusal : s_MF mX9_refusal 0 := ⟨sT_of 946 (by decide +kernel) rfl, sT_of 88 (by decide +kernel) rfl, by decide +kernel, by decide +kernel, by decide +kernel, by decide +kernel⟩
theorem vX9_refusal : s_MV mX9_refusal := ⟨sT_of 945 (by decide +kernel) rfl, sT_of 49 (by decide +kernel) rfl⟩
abbrev mX9_keepNow : sMI := (yX9_keepNow, cX9_keepNow, 2, none)
theorem kX9_keepNow : s_MF mX9_keepNow 0 := ⟨sT_of 951 (by decide +kernel) rfl, sT_of 88 (by decide +kernel) rfl, by decide +kernel, by decide +kernel, by decide +kernel, by decide +kernel⟩
theorem vX9_keepNow : s_MV mX9_keepNow := ⟨sT_of 950 (by decide +kernel) rfl, sT_of 50 (by decide +kernel) rfl⟩
abbrev mX9_goEvening : sMI := (yX9_goEvening, cX9_goEvening, 3, none)
theorem kX9_goEvening : s_MF mX9_goEvening 0 := ⟨sT_of 955 (by decide +kernel) rfl, sT_of 88 (by decide +kernel) rfl, by decide +kernel, by decide +kernel, by decide +kernel, by decide +kernel⟩
theorem vX9_goEvening : s_MV mX9_goEvening := ⟨sT_of 954 (by decide +kernel) rfl, sT_of 51 (by decide +kernel) rfl⟩
abbrev mX9_passHour : sMI := (yX9_passHour, cX9_passHour, 2, none)
theorem kX9_passHour : s_MF mX9_passHour 0 := ⟨sT_of 959 (by decide +kernel) rfl, sT_of 88 (by decide +kernel) rfl, by decide +kernel, by decide +kernel, by decide +kernel, by decide +kernel⟩
theorem vX9_passHour : s_MV mX9_passHour := ⟨sT_of 958 (by decide +kernel) rfl, sT_of 52 (by decide +kernel) rfl⟩
abbrev mX9_comeIn : sMI := (yX9_comeIn, cX9_comeIn, 4, none)
theorem kX9_comeIn : s_MF mX9_comeIn 2 := ⟨sT_of 965 (by decide +kernel) rfl, sT_of 88 (by decide +kernel) rfl, by decide +kernel, by decide +kernel, by decide +kernel, by decide +kernel⟩
theorem vX9_comeIn : s_MV mX9_comeIn := ⟨sT_of 964 (by decide +kernel) rfl, sT_of 53 (by decide +kernel) rfl⟩
abbrev mX9_taken : sMI := (yX9_taken, cX9_taken, 5, some .int)
theorem kX9_taken : s_MF mX9_taken 1 := ⟨sT_of 969 (by decide +kernel) rfl, sT_of 88 (by decide +kernel) rfl, by decide +kernel, by decide +kernel, by decide +kernel, by decide +kernel⟩
theorem vX9_taken : s_MV mX9_taken := ⟨sT_of 968 (by decide +kernel) rfl, sT_of 54 (by decide +kernel) rfl⟩
abbrev mX9_isPassed : sMI := (yX9_isPassed, cX9_isPassed, 2, some .boolean)
theorem kX9_isPassed : s_MF mX9_isPassed 1 := ⟨sT_of 973 (by decide +kernel) rfl, sT_of 88 (by decide +kernel) rfl, by decide +kernel, by decide +kernel, by decide +kernel, by decide +kernel⟩
theorem vX9_isPassed : s_MV mX9_isPassed := ⟨sT_of 972 (by decide +kernel) rfl, sT_of 55 (by decide +kernel) rfl⟩
abbrev mX9_likes : sMI := (yX9_likes, cX9_likes, 5, some .int)
theorem kX9_likes : s_MF mX9_likes 2 := ⟨sT_of 977 (by decide +kernel) rfl, sT_of 88 (by decide +kernel) rfl, by decide +kernel, by decide +kernel, by decide +kernel, by decide +kernel⟩
theorem vX9_likes : s_MV mX9_likes := ⟨sT_of 976 (by decide +kernel) rfl, sT_of 56 (by decide +kernel) rfl⟩
abbrev mX9_use : sMI := (yX9_use, cX9_use, 4, none)
theorem kX9_use : s_MF mX9_use 2 := ⟨sT_of 981 (by decide +kernel) rfl, sT_of 88 (by decide +kernel) rfl, by decide +kernel, by decide +kernel, by decide +kernel, by decide +kernel⟩
theorem vX9_use : s_MV mX9_use := ⟨sT_of 980 (by decide +kernel) rfl, sT_of 57 (by decide +kernel) rfl⟩
abbrev mX9_putBack : sMI := (yX9_putBack, cX9_putBack, 2, none)
theorem kX9_putBack : s_MF mX9_putBack 0 := ⟨sT_of 985 (by decide +kernel) rfl, sT_of 88 (by decide +kernel) rfl, by decide +kernel, by decide +kernel, by decide +kernel, by decide +kernel⟩
theorem vX9_putBack : s_MV mX9_putBack := ⟨sT_of 984 (by decide +kernel) rfl, sT_of 58 (by decide +kernel) rfl⟩
abbrev mX9_used : sMI := (yX9_used, cX9_used, 3, some .int)
theorem kX9_used : s_MF mX9_used 1 := ⟨sT_of 989 (by decide +kernel) rfl, sT_of 88 (by decide +kernel) rfl, by decide +kernel, by decide +kernel, by decide +kernel, by decide +kernel⟩
theorem vX9_used : s_MV mX9_used := ⟨sT_of 987 (by decide +kernel) rfl, sT_of 988 (by decide +kernel) rfl⟩
abbrev mX9_behind : sMI := (yX9_behind, cX9_behind, 4, some .int)
theorem kX9_behind : s_MF mX9_behind 2 := ⟨sT_of 993 (by decide +kernel) rfl, sT_of 88 (by decide +kernel) rfl, by decide +kernel, by decide +kernel, by decide +kernel, by decide +kernel⟩
theorem vX9_behind : s_MV mX9_behind := ⟨sT_of 991 (by decide +kernel) rfl, sT_of 992 (by decide +kernel) rfl⟩
abbrev mX9_done : sMI := (yX9_done, cX9_done, 3, some .int)
theorem kX9_done : s_MF mX9_done 0 := ⟨sT_of 997 (by decide +kernel) rfl, sT_of 88 (by decide +kernel) rfl, by decide +kernel, by decide +kernel, by decide +kernel, by decide +kernel⟩
theorem vX9_done : s_MV mX9_done := ⟨sT_of 995 (by decide +kernel) rfl, sT_of 996 (by decide +kernel) rfl⟩
abbrev mX9_state : sMI := (yX9_state, cX9_state, 3, some .int)
theorem kX9_state : s_MF mX9_state 2 := ⟨sT_of 1001 (by decide +kernel) rfl, sT_of 88 (by decide +kernel) rfl, by decide +kernel, by decide +kernel, by decide +kernel, by decide +kernel⟩
theorem vX9_state : s_MV mX9_state := ⟨sT_of 999 (by decide +kernel) rfl, sT_of 1000 (by decide +kernel) rfl⟩
abbrev mX9_eats : sMI := (yX9_eats, cX9_eats, 2, some .int)
theorem kX9_eats : s_MF mX9_eats 1 := ⟨sT_of 1005 (by decide +kernel) rfl, sT_of 88 (by decide +kernel) rfl, by decide +kernel, by decide +kernel, by decide +kernel, by decide +kernel⟩
theorem vX9_eats : s_MV mX9_eats := ⟨sT_of 1003 (by decide +kernel) rfl, sT_of 1004 (by decide +kernel) rfl⟩
abbrev mX9_seen : sMI := (yX9_seen, cX9_seen, 3, some .int)
theorem kX9_seen : s_MF mX9_seen 2 := ⟨sT_of 1009 (by decide +kernel) rfl, sT_of 88 (by decide +kernel) rfl, by decide +kernel, by decide +kernel, by decide +kernel, by decide +kernel⟩
theorem vX9_seen : s_MV mX9_seen := ⟨sT_of 1007 (by decide +kernel) rfl, sT_of 1008 (by decide +kernel) rfl⟩
abbrev mX9_sights : sMI := (yX9_sights, cX9_sights, 3, some .int)
theorem kX9_sights : s_MF mX9_sights 0 := ⟨sT_of 1013 (by decide +kernel) rfl, sT_of 88 (by decide +kernel) rfl, by decide +kernel, by decide +kernel, by decide +kernel, by decide +kernel⟩
theorem vX9_sights : s_MV mX9_sights := ⟨sT_of 1012 (by decide +kernel) rfl, sT_of 59 (by decide +kernel) rfl⟩
abbrev mX9_forget : sMI := (yX9_forget, cX9_forget, 3, some .int)
theorem kX9_forget : s_MF mX9_forget 0 := ⟨sT_of 1017 (by decide +kernel) rfl, sT_of 88 (by decide +kernel) rfl, by decide +kernel, by decide +kernel, by decide +kernel, by decide +kernel⟩
theorem vX9_forget : s_MV mX9_forget := ⟨sT_of 1015 (by decide +kernel) rfl, sT_of 1016 (by decide +kernel) rfl⟩
abbrev mX9_rows : sMI := (yX9_rows, cX9_rows, 3, some .int)
theorem kX9_rows : s_MF mX9_rows 2 := ⟨sT_of 1021 (by decide +kernel) rfl, sT_of 88 (by decide +kernel) rfl, by decide +kernel, by decide +kernel, by decide +kernel, by decide +kernel⟩
theorem vX9_rows : s_MV mX9_rows := ⟨sT_of 1019 (by decide +kernel) rfl, sT_of 1020 (by decide +kernel) rfl⟩
abbrev mX9_goRows : sMI := (yX9_goRows, cX9_goRows, 4, none)
theorem kX9_goRows : s_MF mX9_goRows 1 := ⟨sT_of 1026 (by decide +kernel) rfl, sT_of 88 (by decide +kernel) rfl, by decide +kernel, by decide +kernel, by decide +kernel, by decide +kernel⟩
theorem vX9_goRows : s_MV mX9_goRows := ⟨sT_of 1025 (by decide +kernel) rfl, sT_of 60 (by decide +kernel) rfl⟩
abbrev mX9_power : sMI := (yX9_power, cX9_power, 4, some .int)
theorem kX9_power : s_MF mX9_power 2 := ⟨sT_of 1029 (by decide +kernel) rfl, sT_of 88 (by decide +kernel) rfl, by decide +kernel, by decide +kernel, by decide +kernel, by decide +kernel⟩
theorem vX9_power : s_MS mX9_power := sT_of 1028 (by decide +kernel) rfl
abbrev mX9_layRow : sMI := (yX9_layRow, cX9_layRow, 5, none)
theorem kX9_layRow : s_MF mX9_layRow 2 := ⟨sT_of 1033 (by decide +kernel) rfl, sT_of 88 (by decide +kernel) rfl, by decide +kernel, by decide +kernel, by decide +kernel, by decide +kernel⟩
theorem vX9_layRow : s_MV mX9_layRow := ⟨sT_of 1032 (by decide +kernel) rfl, sT_of 61 (by decide +kernel) rfl⟩
abbrev mX9_canGo : sMI := (yX9_canGo, cX9_canGo, 4, some .boolean)
theorem kX9_canGo : s_MF mX9_canGo 1 := ⟨sT_of 1037 (by decide +kernel) rfl, sT_of 88 (by decide +kernel) rfl, by decide +kernel, by decide +kernel, by decide +kernel, by decide +kernel⟩
theorem vX9_canGo : s_MV mX9_canGo := ⟨sT_of 1036 (by decide +kernel) rfl, sT_of 62 (by decide +kernel) rfl⟩
abbrev mX9_isSeenSo : sMI := (yX9_isSeenSo, cX9_isSeenSo, 3, some .boolean)
theorem kX9_isSeenSo : s_MF mX9_isSeenSo 0 := ⟨sT_of 1041 (by decide +kernel) rfl, sT_of 88 (by decide +kernel) rfl, by decide +kernel, by decide +kernel, by decide +kernel, by decide +kernel⟩
theorem vX9_isSeenSo : s_MV mX9_isSeenSo := ⟨sT_of 1040 (by decide +kernel) rfl, sT_of 63 (by decide +kernel) rfl⟩
abbrev mX9_countRow : sMI := (yX9_countRow, cX9_countRow, 3, none)
theorem kX9_countRow : s_MF mX9_countRow 1 := ⟨sT_of 1045 (by decide +kernel) rfl, sT_of 88 (by decide +kernel) rfl, by decide +kernel, by decide +kernel, by decide +kernel, by decide +kernel⟩
theorem vX9_countRow : s_MV mX9_countRow := ⟨sT_of 1044 (by decide +kernel) rfl, sT_of 64 (by decide +kernel) rfl⟩
abbrev mX9_cup : sMI := (yX9_cup, cX9_cup, 3, some .int)
theorem kX9_cup : s_MF mX9_cup 2 := ⟨sT_of 1049 (by decide +kernel) rfl, sT_of 88 (by decide +kernel) rfl, by decide +kernel, by decide +kernel, by decide +kernel, by decide +kernel⟩
theorem vX9_cup : s_MV mX9_cup := ⟨sT_of 1047 (by decide +kernel) rfl, sT_of 1048 (by decide +kernel) rfl⟩
abbrev mX9_look : sMI := (yX9_look, cX9_look, 6, some .int)
theorem kX9_look : s_MF mX9_look 2 := ⟨sT_of 1053 (by decide +kernel) rfl, sT_of 88 (by decide +kernel) rfl, by decide +kernel, by decide +kernel, by decide +kernel, by decide +kernel⟩
theorem vX9_look : s_MV mX9_look := ⟨sT_of 1051 (by decide +kernel) rfl, sT_of 1052 (by decide +kernel) rfl⟩
abbrev mX9_mostLeft : sMI := (yX9_mostLeft, cX9_mostLeft, 4, some .int)
theorem kX9_mostLeft : s_MF mX9_mostLeft 1 := ⟨sT_of 1057 (by decide +kernel) rfl, sT_of 88 (by decide +kernel) rfl, by decide +kernel, by decide +kernel, by decide +kernel, by decide +kernel⟩
theorem vX9_mostLeft : s_MV mX9_mostLeft := ⟨sT_of 1056 (by decide +kernel) rfl, sT_of 65 (by decide +kernel) rfl⟩
abbrev mX9_belief : sMI := (yX9_belief, cX9_belief, 12, some .long)
theorem kX9_belief : s_MF mX9_belief 3 := ⟨sT_of 1061 (by decide +kernel) rfl, sT_of 88 (by decide +kernel) rfl, by decide +kernel, by decide +kernel, by decide +kernel, by decide +kernel⟩
theorem vX9_belief : s_MV mX9_belief := ⟨sT_of 1059 (by decide +kernel) rfl, sT_of 1060 (by decide +kernel) rfl⟩
abbrev mX9_weightOf : sMI := (yX9_weightOf, cX9_weightOf, 6, some .long)
theorem kX9_weightOf : s_MF mX9_weightOf 1 := ⟨sT_of 1068 (by decide +kernel) rfl, sT_of 88 (by decide +kernel) rfl, by decide +kernel, by decide +kernel, by decide +kernel, by decide +kernel⟩
theorem vX9_weightOf : s_MV mX9_weightOf := ⟨sT_of 1067 (by decide +kernel) rfl, sT_of 66 (by decide +kernel) rfl⟩
abbrev mX9_lowest : sMI := (yX9_lowest, cX9_lowest, 11, some .long)
theorem kX9_lowest : s_MF mX9_lowest 3 := ⟨sT_of 1071 (by decide +kernel) rfl, sT_of 88 (by decide +kernel) rfl, by decide +kernel, by decide +kernel, by decide +kernel, by decide +kernel⟩
theorem vX9_lowest : s_MS mX9_lowest := sT_of 1070 (by decide +kernel) rfl
abbrev mX9_alike : sMI := (yX9_alike, cX9_alike, 5, some .int)
theorem kX9_alike : s_MF mX9_alike 1 := ⟨sT_of 1075 (by decide +kernel) rfl, sT_of 88 (by decide +kernel) rfl, by decide +kernel, by decide +kernel, by decide +kernel, by decide +kernel⟩
theorem vX9_alike : s_MV mX9_alike := ⟨sT_of 1073 (by decide +kernel) rfl, sT_of 1074 (by decide +kernel) rfl⟩
abbrev mX9_findAlone : sMI := (yX9_findAlone, cX9_findAlone, 3, none)
theorem kX9_findAlone : s_MF mX9_findAlone 0 := ⟨sT_of 1079 (by decide +kernel) rfl, sT_of 88 (by decide +kernel) rfl, by decide +kernel, by decide +kernel, by decide +kernel, by decide +kernel⟩
theorem vX9_findAlone : s_MV mX9_findAlone := ⟨sT_of 1078 (by decide +kernel) rfl, sT_of 67 (by decide +kernel) rfl⟩
abbrev mX9_tableNow : sMI := (yX9_tableNow, cX9_tableNow, 3, some .int)
theorem kX9_tableNow : s_MF mX9_tableNow 0 := ⟨sT_of 1083 (by decide +kernel) rfl, sT_of 88 (by decide +kernel) rfl, by decide +kernel, by decide +kernel, by decide +kernel, by decide +kernel⟩
theorem vX9_tableNow : s_MV mX9_tableNow := ⟨sT_of 1082 (by decide +kernel) rfl, sT_of 68 (by decide +kernel) rfl⟩
abbrev mX9_lay : sMI := (yX9_lay, cX9_lay, 3, some .int)
theorem kX9_lay : s_MF mX9_lay 1 := ⟨sT_of 1087 (by decide +kernel) rfl, sT_of 88 (by decide +kernel) rfl, by decide +kernel, by decide +kernel, by decide +kernel, by decide +kernel⟩
theorem vX9_lay : s_MV mX9_lay := ⟨sT_of 1085 (by decide +kernel) rfl, sT_of 1086 (by decide +kernel) rfl⟩
abbrev mX9_laidSet : sMI := (yX9_laidSet, cX9_laidSet, 7, some .int)
theorem kX9_laidSet : s_MF mX9_laidSet 0 := ⟨sT_of 1091 (by decide +kernel) rfl, sT_of 88 (by decide +kernel) rfl, by decide +kernel, by decide +kernel, by decide +kernel, by decide +kernel⟩
theorem vX9_laidSet : s_MV mX9_laidSet := ⟨sT_of 1090 (by decide +kernel) rfl, sT_of 69 (by decide +kernel) rfl⟩
abbrev mX9_areApart : sMI := (yX9_areApart, cX9_areApart, 4, some .boolean)
theorem kX9_areApart : s_MF mX9_areApart 0 := ⟨sT_of 1095 (by decide +kernel) rfl, sT_of 88 (by decide +kernel) rfl, by decide +kernel, by decide +kernel, by decide +kernel, by decide +kernel⟩
theorem vX9_areApart : s_MV mX9_areApart := ⟨sT_of 1094 (by decide +kernel) rfl, sT_of 70 (by decide +kernel) rfl⟩
abbrev mX9_canBeLaid : sMI := (yX9_canBeLaid, cX9_canBeLaid, 7, some .boolean)
theorem kX9_canBeLaid : s_MF mX9_canBeLaid 2 := ⟨sT_of 1099 (by decide +kernel) rfl, sT_of 88 (by decide +kernel) rfl, by decide +kernel, by decide +kernel, by decide +kernel, by decide +kernel⟩
theorem vX9_canBeLaid : s_MV mX9_canBeLaid := ⟨sT_of 1098 (by decide +kernel) rfl, sT_of 71 (by decide +kernel) rfl⟩
abbrev mX9_hide : sMI := (yX9_hide, cX9_hide, 4, some .int)
theorem kX9_hide : s_MF mX9_hide 0 := ⟨sT_of 1103 (by decide +kernel) rfl, sT_of 88 (by decide +kernel) rfl, by decide +kernel, by decide +kernel, by decide +kernel, by decide +kernel⟩
theorem vX9_hide : s_MV mX9_hide := ⟨sT_of 1101 (by decide +kernel) rfl, sT_of 1102 (by decide +kernel) rfl⟩
abbrev mX9_trace : sMI := (yX9_trace, cX9_trace, 5, some .int)
theorem kX9_trace : s_MF mX9_trace 0 := ⟨sT_of 1107 (by decide +kernel) rfl, sT_of 88 (by decide +kernel) rfl, by decide +kernel, by decide +kernel, by decide +kernel, by decide +kernel⟩
theorem vX9_trace : s_MV mX9_trace := ⟨sT_of 1105 (by decide +kernel) rfl, sT_of 1106 (by decide +kernel) rfl⟩
abbrev mX9_isLeftSo : sMI := (yX9_isLeftSo, cX9_isLeftSo, 3, some .boolean)
theorem kX9_isLeftSo : s_MF mX9_isLeftSo 0 := ⟨sT_of 1111 (by decide +kernel) rfl, sT_of 88 (by decide +kernel) rfl, by decide +kernel, by decide +kernel, by decide +kernel, by decide +kernel⟩
theorem vX9_isLeftSo : s_MV mX9_isLeftSo := ⟨sT_of 1110 (by decide +kernel) rfl, sT_of 72 (by decide +kernel) rfl⟩
abbrev mX9_lock : sMI := (yX9_lock, cX9_lock, 10, some .int)
theorem kX9_lock : s_MF mX9_lock 2 := ⟨sT_of 1115 (by decide +kernel) rfl, sT_of 88 (by decide +kernel) rfl, by decide +kernel, by decide +kernel, by decide +kernel, by decide +kernel⟩
theorem vX9_lock : s_MV mX9_lock := ⟨sT_of 1113 (by decide +kernel) rfl, sT_of 1114 (by decide +kernel) rfl⟩
abbrev mX9_year : sMI := (yX9_year, cX9_year, 12, some .int)
theorem kX9_year : s_MF mX9_year 3 := ⟨sT_of 1120 (by decide +kernel) rfl, sT_of 88 (by decide +kernel) rfl, by decide +kernel, by decide +kernel, by decide +kernel, by decide +kernel⟩
theorem vX9_year : s_MV mX9_year := ⟨sT_of 1118 (by decide +kernel) rfl, sT_of 1119 (by decide +kernel) rfl⟩
abbrev mX9_image : sMI := (yX9_image, cX9_image, 2, some .int)
theorem kX9_image : s_MF mX9_image 1 := ⟨sT_of 1130 (by decide +kernel) rfl, sT_of 88 (by decide +kernel) rfl, by decide +kernel, by decide +kernel, by decide +kernel, by decide +kernel⟩
theorem vX9_image : s_MV mX9_image := ⟨sT_of 1128 (by decide +kernel) rfl, sT_of 1129 (by decide +kernel) rfl⟩
abbrev mX9_passAll : sMI := (yX9_passAll, cX9_passAll, 2, none)
theorem kX9_passAll : s_MF mX9_passAll 0 := ⟨sT_of 1134 (by decide +kernel) rfl, sT_of 88 (by decide +kernel) rfl, by decide +kernel, by decide +kernel, by decide +kernel, by decide +kernel⟩
theorem vX9_passAll : s_MV mX9_passAll := ⟨sT_of 1133 (by decide +kernel) rfl, sT_of 73 (by decide +kernel) rfl⟩
abbrev mX9_pass : sMI := (yX9_pass, cX9_pass, 3, some .int)
theorem kX9_pass : s_MF mX9_pass 1 := ⟨sT_of 1138 (by decide +kernel) rfl, sT_of 88 (by decide +kernel) rfl, by decide +kernel, by decide +kernel, by decide +kernel, by decide +kernel⟩
theorem vX9_pass : s_MV mX9_pass := ⟨sT_of 1137 (by decide +kernel) rfl, sT_of 74 (by decide +kernel) rfl⟩
abbrev mX9_restore : sMI := (yX9_restore, cX9_restore, 2, some .int)
theorem kX9_restore : s_MF mX9_restore 1 := ⟨sT_of 1142 (by decide +kernel) rfl, sT_of 88 (by decide +kernel) rfl, by decide +kernel, by decide +kernel, by decide +kernel, by decide +kernel⟩
theorem vX9_restore : s_MV mX9_restore := ⟨sT_of 1140 (by decide +kernel) rfl, sT_of 1141 (by decide +kernel) rfl⟩
abbrev mX9_told : sMI := (yX9_told, cX9_told, 2, some .int)
theorem kX9_told : s_MF mX9_told 1 := ⟨sT_of 1146 (by decide +kernel) rfl, sT_of 88 (by decide +kernel) rfl, by decide +kernel, by decide +kernel, by decide +kernel, by decide +kernel⟩
theorem vX9_told : s_MV mX9_told := ⟨sT_of 1144 (by decide +kernel) rfl, sT_of 1145 (by decide +kernel) rfl⟩
abbrev mX9_toldOfGuest : sMI := (yX9_toldOfGuest, cX9_toldOfGuest, 3, some .int)
theorem kX9_toldOfGuest : s_MF mX9_toldOfGuest 2 := ⟨sT_of 1152 (by decide +kernel) rfl, sT_of 88 (by decide +kernel) rfl, by decide +kernel, by decide +kernel, by decide +kernel, by decide +kernel⟩
theorem vX9_toldOfGuest : s_MV mX9_toldOfGuest := ⟨sT_of 1151 (by decide +kernel) rfl, sT_of 75 (by decide +kernel) rfl⟩
abbrev mX9_toldOfThing : sMI := (yX9_toldOfThing, cX9_toldOfThing, 3, some .int)
theorem kX9_toldOfThing : s_MF mX9_toldOfThing 2 := ⟨sT_of 1158 (by decide +kernel) rfl, sT_of 88 (by decide +kernel) rfl, by decide +kernel, by decide +kernel, by decide +kernel, by decide +kernel⟩
theorem vX9_toldOfThing : s_MV mX9_toldOfThing := ⟨sT_of 1157 (by decide +kernel) rfl, sT_of 76 (by decide +kernel) rfl⟩
theorem lL_9 : s_ML RL 9 yX8_init := Or.inl (sT_of 94 (by decide +kernel) rfl)
theorem lX8_1 : Cond.methodLink RX8 1 objectInit ∈ sT := sT_of 97 (by decide +kernel) rfl
theorem lX8_9 : s_ML RX8 9 yX6_init := Or.inr ⟨"SevenPlates", sTn_of 102 (by decide +kernel) rfl⟩
theorem lX6_3 : Cond.methodLink RX6 3 objectInit ∈ sT := sT_of 105 (by decide +kernel) rfl
theorem lX6_39 : s_ML RX6 39 yX6_asAtFirst := Or.inl (sT_of 106 (by decide +kernel) rfl)
theorem lX6_50 : s_ML RX6 50 yJ7_fill_53178 := Or.inl (sT_of 110 (by decide +kernel) rfl)
theorem lX8_26 : s_ML RX8 26 yX4_init := Or.inr ⟨"SevenPlates", sTn_of 175 (by decide +kernel) rfl⟩
theorem lX4_3 : Cond.methodLink RX4 3 objectInit ∈ sT := sT_of 178 (by decide +kernel) rfl
theorem lX8_33 : s_ML RX8 33 yX1_init := Or.inr ⟨"SevenPlates", sTn_of 192 (by decide +kernel) rfl⟩
theorem lX1_3 : Cond.methodLink RX1 3 objectInit ∈ sT := sT_of 195 (by decide +kernel) rfl
theorem lX8_42 : s_ML RX8 42 yX2_init := Or.inr ⟨"SevenPlates", sTn_of 220 (by decide +kernel) rfl⟩
theorem lX2_3 : Cond.methodLink RX2 3 objectInit ∈ sT := sT_of 223 (by decide +kernel) rfl
theorem lX8_51 : s_ML RX8 51 yX5_init := Or.inr ⟨"SevenPlates", sTn_of 269 (by decide +kernel) rfl⟩
theorem lX5_3 : Cond.methodLink RX5 3 objectInit ∈ sT := sT_of 272 (by decide +kernel) rfl
theorem lX8_58 : s_ML RX8 58 yX0_init := Or.inr ⟨"SevenPlates", sTn_of 319 (by decide +kernel) rfl⟩
theorem lX0_3 : Cond.methodLink RX0 3 objectInit ∈ sT := sT_of 322 (by decide +kernel) rfl
theorem lX8_65 : s_ML RX8 65 yX3_init := Or.inr ⟨"SevenPlates", sTn_of 340 (by decide +kernel) rfl⟩
theorem lX3_3 : Cond.methodLink RX3 3 objectInit ∈ sT := sT_of 343 (by decide +kernel) rfl
theorem lX8_74 : s_ML RX8 74 yX7_init := Or.inr ⟨"SevenPlates", sTn_of 356 (by decide +kernel) rfl⟩
theorem lX7_3 : Cond.methodLink RX7 3 objectInit ∈ sT := sT_of 359 (by decide +kernel) rfl
theorem lL_13 : s_ML RL 13 yX8_things := Or.inl (sT_of 401 (by decide +kernel) rfl)
theorem lX8_83 : s_ML RX8 83 yX6_asAtFirst := Or.inr ⟨"SevenPlates", sTn_of 405 (by decide +kernel) rfl⟩
theorem lL_18 : s_ML RL 18 yX8_thing := Or.inl (sT_of 406 (by decide +kernel) rfl)
theorem lX8_87 : s_ML RX8 87 yX6_hasThing := Or.inr ⟨"SevenPlates", sTn_of 410 (by decide +kernel) rfl⟩
theorem lX8_95 : s_ML RX8 95 yX6_ofThing := Or.inr ⟨"SevenPlates", sTn_of 414 (by decide +kernel) rfl⟩
theorem lX8_99 : s_ML RX8 99 yX6_change := Or.inr ⟨"SevenPlates", sTn_of 418 (by decide +kernel) rfl⟩
theorem lL_23 : s_ML RL 23 yX8_guest := Or.inl (sT_of 422 (by decide +kernel) rfl)
theorem lX8_103 : s_ML RX8 103 yX6_welcome := Or.inr ⟨"SevenPlates", sTn_of 426 (by decide +kernel) rfl⟩
theorem lX8_110 : s_ML RX8 110 yJ6_bitCount_0f7a4 := Or.inl (sT_of 430 (by decide +kernel) rfl)
theorem lL_28 : s_ML RL 28 yX8_leave := Or.inl (sT_of 436 (by decide +kernel) rfl)
theorem lX8_116 : s_ML RX8 116 yX6_hasGuest := Or.inr ⟨"SevenPlates", sTn_of 440 (by decide +kernel) rfl⟩
theorem lL_32 : s_ML RL 32 yX8_say := Or.inl (sT_of 444 (by decide +kernel) rfl)
theorem lX8_119 : s_ML RX8 119 yX4_add := Or.inr ⟨"SevenPlates", sTn_of 448 (by decide +kernel) rfl⟩
theorem lL_36 : s_ML RL 36 yX8_wipe := Or.inl (sT_of 452 (by decide +kernel) rfl)
theorem lL_41 : s_ML RL 41 yX8_fault := Or.inl (sT_of 456 (by decide +kernel) rfl)
theorem lX8_125 : s_ML RX8 125 yX4_firstFault := Or.inr ⟨"SevenPlates", sTn_of 460 (by decide +kernel) rfl⟩
theorem lX4_19 : s_ML RX4 19 yX4_canStand := Or.inl (sT_of 464 (by decide +kernel) rfl)
theorem lX4_23 : s_ML RX4 23 yX4_isGuest := Or.inl (sT_of 467 (by decide +kernel) rfl)
theorem lL_45 : s_ML RL 45 yX8_judge := Or.inl (sT_of 470 (by decide +kernel) rfl)
theorem lX8_128 : s_ML RX8 128 yX8_runEvening := Or.inl (sT_of 474 (by decide +kernel) rfl)
theorem lX8_263 : s_ML RX8 263 yX2_run := Or.inr ⟨"SevenPlates", sTn_of 478 (by decide +kernel) rfl⟩
theorem lX2_35 : s_ML RX2 35 yX2_begin := Or.inl (sT_of 482 (by decide +kernel) rfl)
theorem lX2_65 : s_ML RX2 65 yX1_begin := Or.inr ⟨"SevenPlates", sTn_of 486 (by decide +kernel) rfl⟩
theorem lX1_22 : Cond.methodLink RX1 22 arraycopyName ∈ sT := sT_of 490 (by decide +kernel) rfl
theorem lX2_71 : Cond.methodLink RX2 71 arraycopyName ∈ sT := sT_of 493 (by decide +kernel) rfl
theorem lX2_77 : s_ML RX2 77 yJ7_fill_53178 := Or.inl (sT_of 494 (by decide +kernel) rfl)
theorem lX2_47 : s_ML RX2 47 yX4_isGuest := Or.inr ⟨"SevenPlates", sTn_of 495 (by decide +kernel) rfl⟩
theorem lX2_51 : s_ML RX2 51 yX2_comes := Or.inl (sT_of 496 (by decide +kernel) rfl)
theorem lX2_91 : s_ML RX2 91 yX6_hasGuest := Or.inr ⟨"SevenPlates", sTn_of 500 (by decide +kernel) rfl⟩
theorem lX2_94 : s_ML RX2 94 yX2_fail := Or.inl (sT_of 501 (by decide +kernel) rfl)
theorem lX2_97 : s_ML RX2 97 yX1_choice := Or.inr ⟨"SevenPlates", sTn_of 505 (by decide +kernel) rfl⟩
theorem lX1_39 : s_ML RX1 39 yX1_rank := Or.inl (sT_of 509 (by decide +kernel) rfl)
theorem lX1_52 : Cond.methodLink RX1 52 Lib.Math.abs.name ∈ sT := sT_of 513 (by decide +kernel) rfl
theorem lX2_101 : s_ML RX2 101 yX1_use := Or.inr ⟨"SevenPlates", sTn_of 516 (by decide +kernel) rfl⟩
theorem lX1_61 : s_ML RX1 61 yX1_bite := Or.inl (sT_of 520 (by decide +kernel) rfl)
theorem lX1_64 : Cond.methodLink RX1 64 Lib.Math.min.name ∈ sT := sT_of 524 (by decide +kernel) rfl
theorem lX2_55 : s_ML RX2 55 yX2_cool := Or.inl (sT_of 527 (by decide +kernel) rfl)
theorem lX2_105 : Cond.methodLink RX2 105 Lib.Math.max.name ∈ sT := sT_of 531 (by decide +kernel) rfl
theorem lX2_58 : s_ML RX2 58 yX2_fill := Or.inl (sT_of 534 (by decide +kernel) rfl)
theorem lX2_110 : s_ML RX2 110 yX6_hasThing := Or.inr ⟨"SevenPlates", sTn_of 538 (by decide +kernel) rfl⟩
theorem lL_49 : s_ML RL 49 yX8_used := Or.inl (sT_of 539 (by decide +kernel) rfl)
theorem lL_53 : s_ML RL 53 yX8_behind := Or.inl (sT_of 543 (by decide +kernel) rfl)
theorem lL_58 : s_ML RL 58 yX8_done := Or.inl (sT_of 547 (by decide +kernel) rfl)
theorem lX8_160 : Cond.methodLink RX8 160 arraycopyName ∈ sT := sT_of 551 (by decide +kernel) rfl
theorem lL_62 : s_ML RL 62 yX8_state := Or.inl (sT_of 552 (by decide +kernel) rfl)
theorem lL_66 : s_ML RL 66 yX8_eats := Or.inl (sT_of 556 (by decide +kernel) rfl)
theorem lX8_167 : s_ML RX8 167 yX1_begin := Or.inr ⟨"SevenPlates", sTn_of 560 (by decide +kernel) rfl⟩
theorem lX8_170 : s_ML RX8 170 yX1_choice := Or.inr ⟨"SevenPlates", sTn_of 561 (by decide +kernel) rfl⟩
theorem lL_70 : s_ML RL 70 yX8_seen := Or.inl (sT_of 562 (by decide +kernel) rfl)
theorem lX8_176 : s_ML RX8 176 yX6_sightBits := Or.inr ⟨"SevenPlates", sTn_of 566 (by decide +kernel) rfl⟩
theorem lL_74 : s_ML RL 74 yX8_forget := Or.inl (sT_of 570 (by decide +kernel) rfl)
theorem lX8_179 : s_ML RX8 179 yJ7_fill_53178 := Or.inl (sT_of 574 (by decide +kernel) rfl)
theorem lL_78 : s_ML RL 78 yX8_rows := Or.inl (sT_of 575 (by decide +kernel) rfl)
theorem lX8_185 : s_ML RX8 185 yX8_isRowLength := Or.inl (sT_of 579 (by decide +kernel) rfl)
theorem lX8_188 : s_ML RX8 188 yX5_gather := Or.inr ⟨"SevenPlates", sTn_of 582 (by decide +kernel) rfl⟩
theorem lX5_40 : Cond.methodLink RX5 40 arraycopyName ∈ sT := sT_of 586 (by decide +kernel) rfl
theorem lX5_46 : s_ML RX5 46 yJ7_fill_53178 := Or.inl (sT_of 587 (by decide +kernel) rfl)
theorem lX5_65 : s_ML RX5 65 yX1_begin := Or.inr ⟨"SevenPlates", sTn_of 588 (by decide +kernel) rfl⟩
theorem lX5_70 : Cond.methodLink RX5 70 Lib.Math.min.name ∈ sT := sT_of 589 (by decide +kernel) rfl
theorem lX5_76 : s_ML RX5 76 yX5_walk := Or.inl (sT_of 590 (by decide +kernel) rfl)
theorem lX5_80 : s_ML RX5 80 yX1_stillToEat := Or.inr ⟨"SevenPlates", sTn_of 594 (by decide +kernel) rfl⟩
theorem lX5_84 : s_ML RX5 84 yX5_note := Or.inl (sT_of 598 (by decide +kernel) rfl)
theorem lX5_88 : s_ML RX5 88 yX6_hasGuest := Or.inr ⟨"SevenPlates", sTn_of 602 (by decide +kernel) rfl⟩
theorem lX5_94 : s_ML RX5 94 yX1_choice := Or.inr ⟨"SevenPlates", sTn_of 603 (by decide +kernel) rfl⟩
theorem lX5_101 : s_ML RX5 101 yX1_use := Or.inr ⟨"SevenPlates", sTn_of 604 (by decide +kernel) rfl⟩
theorem lX5_104 : s_ML RX5 104 yX1_takeBack := Or.inr ⟨"SevenPlates", sTn_of 605 (by decide +kernel) rfl⟩
theorem lX8_201 : s_ML RX8 201 yX5_atPlace := Or.inr ⟨"SevenPlates", sTn_of 609 (by decide +kernel) rfl⟩
theorem lL_82 : s_ML RL 82 yX8_cup := Or.inl (sT_of 613 (by decide +kernel) rfl)
theorem lL_86 : s_ML RL 86 yX8_look := Or.inl (sT_of 617 (by decide +kernel) rfl)
theorem lX8_207 : s_ML RX8 207 yX5_bestToLookAt := Or.inr ⟨"SevenPlates", sTn_of 621 (by decide +kernel) rfl⟩
theorem lX5_113 : s_ML RX5 113 yX5_mostLeftOver := Or.inl (sT_of 625 (by decide +kernel) rfl)
theorem lX5_116 : Cond.methodLink RX5 116 Lib.Math.max.name ∈ sT := sT_of 629 (by decide +kernel) rfl
theorem lX8_210 : s_ML RX8 210 yX5_mostLeftOver := Or.inr ⟨"SevenPlates", sTn_of 630 (by decide +kernel) rfl⟩
theorem lL_90 : s_ML RL 90 yX8_belief := Or.inl (sT_of 631 (by decide +kernel) rfl)
theorem lX8_219 : s_ML RX8 219 yX0_weigh := Or.inr ⟨"SevenPlates", sTn_of 638 (by decide +kernel) rfl⟩
theorem lX0_19 : s_ML RX0 19 yX6_hasGuest := Or.inr ⟨"SevenPlates", sTn_of 642 (by decide +kernel) rfl⟩
theorem lX0_33 : s_ML RX0 33 yX1_begin := Or.inr ⟨"SevenPlates", sTn_of 643 (by decide +kernel) rfl⟩
theorem lX0_38 : Cond.methodLink RX0 38 Lib.Math.min.name ∈ sT := sT_of 644 (by decide +kernel) rfl
theorem lX0_44 : s_ML RX0 44 yX0_ways := Or.inl (sT_of 645 (by decide +kernel) rfl)
theorem lX0_57 : s_ML RX0 57 yX1_stillToEat := Or.inr ⟨"SevenPlates", sTn_of 649 (by decide +kernel) rfl⟩
theorem lX0_65 : s_ML RX0 65 yX1_visit := Or.inr ⟨"SevenPlates", sTn_of 650 (by decide +kernel) rfl⟩
theorem lX1_67 : s_ML RX1 67 yX6_hasGuest := Or.inr ⟨"SevenPlates", sTn_of 654 (by decide +kernel) rfl⟩
theorem lX1_71 : s_ML RX1 71 yX1_choice := Or.inl (sT_of 655 (by decide +kernel) rfl)
theorem lX1_74 : s_ML RX1 74 yX1_use := Or.inl (sT_of 656 (by decide +kernel) rfl)
theorem lX0_69 : s_ML RX0 69 yX1_takeBack := Or.inr ⟨"SevenPlates", sTn_of 657 (by decide +kernel) rfl⟩
theorem lX0_51 : s_ML RX0 51 yX0_reduce := Or.inl (sT_of 658 (by decide +kernel) rfl)
theorem lL_95 : s_ML RL 95 yX8_alike := Or.inl (sT_of 662 (by decide +kernel) rfl)
theorem lX8_230 : s_ML RX8 230 yX7_howMany := Or.inr ⟨"SevenPlates", sTn_of 666 (by decide +kernel) rfl⟩
theorem lX7_23 : s_ML RX7 23 yX6_hasGuest := Or.inr ⟨"SevenPlates", sTn_of 670 (by decide +kernel) rfl⟩
theorem lX7_29 : s_ML RX7 29 yX1_choice := Or.inr ⟨"SevenPlates", sTn_of 671 (by decide +kernel) rfl⟩
theorem lX7_35 : s_ML RX7 35 yX1_bite := Or.inr ⟨"SevenPlates", sTn_of 672 (by decide +kernel) rfl⟩
theorem lX7_39 : s_ML RX7 39 yX7_areAlike := Or.inl (sT_of 673 (by decide +kernel) rfl)
theorem lX8_233 : s_ML RX8 233 yX7_atPlace := Or.inr ⟨"SevenPlates", sTn_of 677 (by decide +kernel) rfl⟩
theorem lX7_43 : s_ML RX7 43 yX7_howMany := Or.inl (sT_of 681 (by decide +kernel) rfl)
theorem lL_99 : s_ML RL 99 yX8_lay := Or.inl (sT_of 682 (by decide +kernel) rfl)
theorem lX8_234 : s_ML RX8 234 yX7_fewestLaidAnew := Or.inr ⟨"SevenPlates", sTn_of 686 (by decide +kernel) rfl⟩
theorem lX7_51 : s_ML RX7 51 yX7_helps := Or.inl (sT_of 690 (by decide +kernel) rfl)
theorem lL_103 : s_ML RL 103 yX8_hide := Or.inl (sT_of 694 (by decide +kernel) rfl)
theorem lL_107 : s_ML RL 107 yX8_trace := Or.inl (sT_of 698 (by decide +kernel) rfl)
theorem lL_111 : s_ML RL 111 yX8_lock := Or.inl (sT_of 702 (by decide +kernel) rfl)
theorem lX8_243 : s_ML RX8 243 yX3_howMany := Or.inr ⟨"SevenPlates", sTn_of 706 (by decide +kernel) rfl⟩
theorem lX3_19 : s_ML RX3 19 yJ7_fill_53178 := Or.inl (sT_of 710 (by decide +kernel) rfl)
theorem lX3_29 : Cond.methodLink RX3 29 Lib.Math.min.name ∈ sT := sT_of 711 (by decide +kernel) rfl
theorem lX3_35 : s_ML RX3 35 yX3_walk := Or.inl (sT_of 712 (by decide +kernel) rfl)
theorem lX3_39 : s_ML RX3 39 yX1_asNumber := Or.inr ⟨"SevenPlates", sTn_of 716 (by decide +kernel) rfl⟩
theorem lX3_45 : s_ML RX3 45 yX3_put := Or.inl (sT_of 720 (by decide +kernel) rfl)
theorem lX3_51 : s_ML RX3 51 yX1_visit := Or.inr ⟨"SevenPlates", sTn_of 725 (by decide +kernel) rfl⟩
theorem lX3_55 : s_ML RX3 55 yX1_takeBack := Or.inr ⟨"SevenPlates", sTn_of 726 (by decide +kernel) rfl⟩
theorem lL_115 : s_ML RL 115 yX8_year := Or.inl (sT_of 727 (by decide +kernel) rfl)
theorem lX8_246 : s_ML RX8 246 yX1_visit := Or.inr ⟨"SevenPlates", sTn_of 732 (by decide +kernel) rfl⟩
theorem lL_119 : s_ML RL 119 yX8_image := Or.inl (sT_of 733 (by decide +kernel) rfl)
theorem lX8_251 : s_ML RX8 251 yX6_copyFrom := Or.inr ⟨"SevenPlates", sTn_of 737 (by decide +kernel) rfl⟩
theorem lX6_59 : Cond.methodLink RX6 59 arraycopyName ∈ sT := sT_of 741 (by decide +kernel) rfl
theorem lL_123 : s_ML RL 123 yX8_restore := Or.inl (sT_of 742 (by decide +kernel) rfl)
theorem lL_127 : s_ML RL 127 yX8_told := Or.inl (sT_of 746 (by decide +kernel) rfl)
theorem lX8_254 : s_ML RX8 254 yX8_toldOfGuest := Or.inl (sT_of 750 (by decide +kernel) rfl)
theorem lX8_260 : s_ML RX8 260 yX6_ofGuest := Or.inr ⟨"SevenPlates", sTn_of 754 (by decide +kernel) rfl⟩
theorem lX8_257 : s_ML RX8 257 yX8_toldOfThing := Or.inl (sT_of 758 (by decide +kernel) rfl)
theorem lL_12 : s_ML RL 12 yX9_init := Or.inl (sT_of 764 (by decide +kernel) rfl)
theorem lX9_1 : Cond.methodLink RX9 1 objectInit ∈ sT := sT_of 767 (by decide +kernel) rfl
theorem lX9_80 : s_ML RX9 80 yX9_begin := Or.inl (sT_of 768 (by decide +kernel) rfl)
theorem lX9_88 : s_ML RX9 88 yX9_at := Or.inl (sT_of 772 (by decide +kernel) rfl)
theorem lL_17 : s_ML RL 17 yX9_things := Or.inl (sT_of 890 (by decide +kernel) rfl)
theorem lX9_92 : s_ML RX9 92 yX9_in := Or.inl (sT_of 895 (by decide +kernel) rfl)
theorem lL_22 : s_ML RL 22 yX9_thing := Or.inl (sT_of 898 (by decide +kernel) rfl)
theorem lX9_103 : s_ML RX9 103 yX9_isThing := Or.inl (sT_of 902 (by decide +kernel) rfl)
theorem lL_27 : s_ML RL 27 yX9_guest := Or.inl (sT_of 908 (by decide +kernel) rfl)
theorem lX9_109 : s_ML RX9 109 yX9_ones := Or.inl (sT_of 912 (by decide +kernel) rfl)
theorem lL_31 : s_ML RL 31 yX9_leave := Or.inl (sT_of 915 (by decide +kernel) rfl)
theorem lX9_113 : s_ML RX9 113 yX9_isThere := Or.inl (sT_of 919 (by decide +kernel) rfl)
theorem lL_35 : s_ML RL 35 yX9_say := Or.inl (sT_of 923 (by decide +kernel) rfl)
theorem lL_40 : s_ML RL 40 yX9_wipe := Or.inl (sT_of 929 (by decide +kernel) rfl)
theorem lL_44 : s_ML RL 44 yX9_fault := Or.inl (sT_of 933 (by decide +kernel) rfl)
theorem lL_48 : s_ML RL 48 yX9_judge := Or.inl (sT_of 939 (by decide +kernel) rfl)
theorem lX9_178 : s_ML RX9 178 yX9_refusal := Or.inl (sT_of 943 (by decide +kernel) rfl)
theorem lX9_165 : s_ML RX9 165 yX9_fault := Or.inl (sT_of 947 (by decide +kernel) rfl)
theorem lX9_169 : s_ML RX9 169 yX9_keepNow := Or.inl (sT_of 948 (by decide +kernel) rfl)
theorem lX9_172 : s_ML RX9 172 yX9_goEvening := Or.inl (sT_of 952 (by decide +kernel) rfl)
theorem lX9_155 : s_ML RX9 155 yX9_passHour := Or.inl (sT_of 956 (by decide +kernel) rfl)
theorem lX9_162 : s_ML RX9 162 yX9_comeIn := Or.inl (sT_of 962 (by decide +kernel) rfl)
theorem lX9_139 : s_ML RX9 139 yX9_taken := Or.inl (sT_of 966 (by decide +kernel) rfl)
theorem lX9_130 : s_ML RX9 130 yX9_isPassed := Or.inl (sT_of 970 (by decide +kernel) rfl)
theorem lX9_133 : s_ML RX9 133 yX9_likes := Or.inl (sT_of 974 (by decide +kernel) rfl)
theorem lX9_151 : s_ML RX9 151 yX9_use := Or.inl (sT_of 978 (by decide +kernel) rfl)
theorem lX9_175 : s_ML RX9 175 yX9_putBack := Or.inl (sT_of 982 (by decide +kernel) rfl)
theorem lL_52 : s_ML RL 52 yX9_used := Or.inl (sT_of 986 (by decide +kernel) rfl)
theorem lL_57 : s_ML RL 57 yX9_behind := Or.inl (sT_of 990 (by decide +kernel) rfl)
theorem lL_61 : s_ML RL 61 yX9_done := Or.inl (sT_of 994 (by decide +kernel) rfl)
theorem lL_65 : s_ML RL 65 yX9_state := Or.inl (sT_of 998 (by decide +kernel) rfl)
theorem lL_69 : s_ML RL 69 yX9_eats := Or.inl (sT_of 1002 (by decide +kernel) rfl)
theorem lL_73 : s_ML RL 73 yX9_seen := Or.inl (sT_of 1006 (by decide +kernel) rfl)
theorem lX9_181 : s_ML RX9 181 yX9_sights := Or.inl (sT_of 1010 (by decide +kernel) rfl)
theorem lL_77 : s_ML RL 77 yX9_forget := Or.inl (sT_of 1014 (by decide +kernel) rfl)
theorem lL_81 : s_ML RL 81 yX9_rows := Or.inl (sT_of 1018 (by decide +kernel) rfl)
theorem lX9_217 : s_ML RX9 217 yX9_goRows := Or.inl (sT_of 1023 (by decide +kernel) rfl)
theorem lX9_199 : s_ML RX9 199 yX9_power := Or.inl (sT_of 1027 (by decide +kernel) rfl)
theorem lX9_202 : s_ML RX9 202 yX9_layRow := Or.inl (sT_of 1030 (by decide +kernel) rfl)
theorem lX9_205 : s_ML RX9 205 yX9_canGo := Or.inl (sT_of 1034 (by decide +kernel) rfl)
theorem lX9_208 : s_ML RX9 208 yX9_isSeenSo := Or.inl (sT_of 1038 (by decide +kernel) rfl)
theorem lX9_212 : s_ML RX9 212 yX9_countRow := Or.inl (sT_of 1042 (by decide +kernel) rfl)
theorem lL_85 : s_ML RL 85 yX9_cup := Or.inl (sT_of 1046 (by decide +kernel) rfl)
theorem lL_89 : s_ML RL 89 yX9_look := Or.inl (sT_of 1050 (by decide +kernel) rfl)
theorem lX9_220 : s_ML RX9 220 yX9_mostLeft := Or.inl (sT_of 1054 (by decide +kernel) rfl)
theorem lL_94 : s_ML RL 94 yX9_belief := Or.inl (sT_of 1058 (by decide +kernel) rfl)
theorem lX9_229 : s_ML RX9 229 yX9_weightOf := Or.inl (sT_of 1065 (by decide +kernel) rfl)
theorem lX9_233 : s_ML RX9 233 yX9_lowest := Or.inl (sT_of 1069 (by decide +kernel) rfl)
theorem lL_98 : s_ML RL 98 yX9_alike := Or.inl (sT_of 1072 (by decide +kernel) rfl)
theorem lX9_240 : s_ML RX9 240 yX9_findAlone := Or.inl (sT_of 1076 (by decide +kernel) rfl)
theorem lX9_237 : s_ML RX9 237 yX9_tableNow := Or.inl (sT_of 1080 (by decide +kernel) rfl)
theorem lL_102 : s_ML RL 102 yX9_lay := Or.inl (sT_of 1084 (by decide +kernel) rfl)
theorem lX9_250 : s_ML RX9 250 yX9_laidSet := Or.inl (sT_of 1088 (by decide +kernel) rfl)
theorem lX9_243 : s_ML RX9 243 yX9_areApart := Or.inl (sT_of 1092 (by decide +kernel) rfl)
theorem lX9_246 : s_ML RX9 246 yX9_canBeLaid := Or.inl (sT_of 1096 (by decide +kernel) rfl)
theorem lL_106 : s_ML RL 106 yX9_hide := Or.inl (sT_of 1100 (by decide +kernel) rfl)
theorem lL_110 : s_ML RL 110 yX9_trace := Or.inl (sT_of 1104 (by decide +kernel) rfl)
theorem lX9_253 : s_ML RX9 253 yX9_isLeftSo := Or.inl (sT_of 1108 (by decide +kernel) rfl)
theorem lL_114 : s_ML RL 114 yX9_lock := Or.inl (sT_of 1112 (by decide +kernel) rfl)
theorem lL_118 : s_ML RL 118 yX9_year := Or.inl (sT_of 1117 (by decide +kernel) rfl)
theorem lL_122 : s_ML RL 122 yX9_image := Or.inl (sT_of 1127 (by decide +kernel) rfl)
theorem lX9_280 : s_ML RX9 280 yX9_passAll := Or.inl (sT_of 1131 (by decide +kernel) rfl)
theorem lX9_277 : s_ML RX9 277 yX9_pass := Or.inl (sT_of 1135 (by decide +kernel) rfl)
theorem lL_126 : s_ML RL 126 yX9_restore := Or.inl (sT_of 1139 (by decide +kernel) rfl)
theorem lL_130 : s_ML RL 130 yX9_told := Or.inl (sT_of 1143 (by decide +kernel) rfl)
theorem lX9_287 : s_ML RX9 287 yX9_toldOfGuest := Or.inl (sT_of 1149 (by decide +kernel) rfl)
theorem lX9_294 : s_ML RX9 294 yX9_toldOfThing := Or.inl (sT_of 1155 (by decide +kernel) rfl)
theorem qJ6_265 : Cond.constant RJ6 265 (1431655765) ∈ sT := sT_of 433 (by decide +kernel) rfl
theorem qJ6_266 : Cond.constant RJ6 266 (858993459) ∈ sT := sT_of 434 (by decide +kernel) rfl
theorem qJ6_267 : Cond.constant RJ6 267 (252645135) ∈ sT := sT_of 435 (by decide +kernel) rfl
theorem qX8_213 : Cond.constantLong RX8 213 (-1000000000000000001) ∈ sT := sT_of 635 (by decide +kernel) rfl
theorem qX8_215 : Cond.constantLong RX8 215 (-1000000000000000002) ∈ sT := sT_of 636 (by decide +kernel) rfl
theorem qX8_217 : Cond.constantLong RX8 217 (-1000000000000000003) ∈ sT := sT_of 637 (by decide +kernel) rfl
theorem qX3_59 : Cond.constant RX3 59 (-1640531535) ∈ sT := sT_of 724 (by decide +kernel) rfl
theorem qX8_245 : Cond.constant RX8 245 (65537) ∈ sT := sT_of 731 (by decide +kernel) rfl
theorem qX9_101 : Cond.constantLong RX9 101 (7) ∈ sT := sT_of 894 (by decide +kernel) rfl
theorem qX9_96 : Cond.constantLong RX9 96 (3) ∈ sT := sT_of 906 (by decide +kernel) rfl
theorem qX9_107 : Cond.constantLong RX9 107 (9) ∈ sT := sT_of 907 (by decide +kernel) rfl
theorem qX9_116 : Cond.constantLong RX9 116 (33) ∈ sT := sT_of 927 (by decide +kernel) rfl
theorem qX9_118 : Cond.constantLong RX9 118 (126) ∈ sT := sT_of 928 (by decide +kernel) rfl
theorem qX9_123 : Cond.constantLong RX9 123 (65) ∈ sT := sT_of 937 (by decide +kernel) rfl
theorem qX9_125 : Cond.constantLong RX9 125 (68) ∈ sT := sT_of 938 (by decide +kernel) rfl
theorem qX9_158 : Cond.constantLong RX9 158 (48) ∈ sT := sT_of 960 (by decide +kernel) rfl
theorem qX9_160 : Cond.constantLong RX9 160 (54) ∈ sT := sT_of 961 (by decide +kernel) rfl
theorem qX9_215 : Cond.constantLong RX9 215 (6) ∈ sT := sT_of 1022 (by decide +kernel) rfl
theorem qX9_223 : Cond.constantLong RX9 223 (-1000000000000000001) ∈ sT := sT_of 1062 (by decide +kernel) rfl
theorem qX9_225 : Cond.constantLong RX9 225 (-1000000000000000002) ∈ sT := sT_of 1063 (by decide +kernel) rfl
theorem qX9_227 : Cond.constantLong RX9 227 (-1000000000000000003) ∈ sT := sT_of 1064 (by decide +kernel) rfl
theorem qX9_256 : Cond.constantLong RX9 256 (5) ∈ sT := sT_of 1116 (by decide +kernel) rfl
theorem qX9_258 : Cond.constantLong RX9 258 (9999) ∈ sT := sT_of 1121 (by decide +kernel) rfl
theorem qX9_260 : Cond.constantLong RX9 260 (60) ∈ sT := sT_of 1122 (by decide +kernel) rfl
theorem qX9_262 : Cond.constantLong RX9 262 (2) ∈ sT := sT_of 1123 (by decide +kernel) rfl
theorem qX9_264 : Cond.constantLong RX9 264 (75) ∈ sT := sT_of 1124 (by decide +kernel) rfl
theorem qX9_266 : Cond.constantLong RX9 266 (74) ∈ sT := sT_of 1125 (by decide +kernel) rfl
theorem qX9_268 : Cond.constantLong RX9 268 (65537) ∈ sT := sT_of 1126 (by decide +kernel) rfl
theorem qX9_283 : Cond.constantLong RX9 283 (100) ∈ sT := sT_of 1147 (by decide +kernel) rfl
theorem qX9_285 : Cond.constantLong RX9 285 (499) ∈ sT := sT_of 1148 (by decide +kernel) rfl
theorem qX9_290 : Cond.constantLong RX9 290 (10) ∈ sT := sT_of 1153 (by decide +kernel) rfl
theorem qX9_292 : Cond.constantLong RX9 292 (79) ∈ sT := sT_of 1154 (by decide +kernel) rfl
theorem s_acn : Cond.native arraycopyName ∈ sT := sT_of 492 (by decide +kernel) rfl
theorem s_acs : Cond.static arraycopyName ∈ sT := sT_of 491 (by decide +kernel) rfl
theorem s_aci : Cond.initialized "java/lang/System" ∈ sT := sT_of 90 (by decide +kernel) rfl
theorem s_mti : Cond.initialized "java/lang/Math" ∈ sT := sT_of 91 (by decide +kernel) rfl
theorem s_mmax : Cond.static Lib.Math.max.name ∈ sT ∧ Cond.code Lib.Math.max.name Lib.Math.max.code 2 (some .int) ∈ sT := ⟨sT_of 532 (by decide +kernel) rfl, sT_of 533 (by decide +kernel) rfl⟩
theorem s_mmin : Cond.static Lib.Math.min.name ∈ sT ∧ Cond.code Lib.Math.min.name Lib.Math.min.code 2 (some .int) ∈ sT := ⟨sT_of 525 (by decide +kernel) rfl, sT_of 526 (by decide +kernel) rfl⟩
theorem s_mabs : Cond.static Lib.Math.abs.name ∈ sT ∧ Cond.code Lib.Math.abs.name Lib.Math.abs.code 1 (some .int) ∈ sT := ⟨sT_of 514 (by decide +kernel) rfl, sT_of 515 (by decide +kernel) rfl⟩
end
section
-- THE JUDGEMENT: from method mi at pc, with locals al, operands st, memory μ, room for d calls within one another: it comes to a return with Q
abbrev sLy : Type := List sKd × (Nat → FieldType)
abbrev sLL : sLy := (sLay, sTy)
def s_ret (mi : sMI) (pc : Nat) (v : Option sAV) : Prop := match v with
  | none => decode mi.2.1 pc = .ok (.return_, 1) ∧ mi.2.2.2 = none
  | some (.inl x) => decode mi.2.1 pc = .ok (.ireturn, 1) ∧ ∃ ty, mi.2.2.2 = some ty ∧ narrow ty (.int x) = .int x
  | some (.inr (.inl _)) => decode mi.2.1 pc = .ok (.lreturn, 1) ∧ mi.2.2.2 = some .long
  | some (.inr (.inr _)) => False
def s_C (L : sLy) (mi : sMI) (d : Nat) (D : va_G) (tys : List (ClassId × FieldType)) (cA : Nat → ClassId) (p : Program) (R : Room) (s : State) (m : MethodId) (args : Array Value) (c : Code) (A : Nat → Prop) (cells slots : Nat) : Prop :=
  p.tables.exec = Jvm.exec ∧ c.code = mi.2.1 ∧ c.maxLocals = mi.2.2.1 ∧ s.vm.findClass mi.1.cls = some m.cls ∧ (∀ w ∈ sT, w.before args s = true) ∧ (∀ w ∈ sTn, va_Nw w s) ∧ va_K D vwCl tys s ∧ (∀ r k, L.1[r]? = some k → (∃ n, k = sA_ n) ∨ (∃ n b, k = sQ_ n b) → (cA r, L.2 r) ∈ tys) ∧ (d ≤ R.frames ∧ 60 * d ≤ R.locals ∧ cells ≤ R.cells ∧ slots ≤ R.slots) ∧ ∀ q, s.heap.size ≤ q → A q
def sG (L : sLy) (mi : sMI) (d : Nat) (Q : Option sAV → sM → Prop) (pc : Nat) (al : List (Option sAV)) (st : List sAV) (μ : sM) : Prop :=
  ∀ (l : Launch) (D : va_G) (tys : List (ClassId × FieldType)) (ad : Nat → Nat) (cA : Nat → ClassId) (p : Program) (e : Env) (R : Room) (s : State) (m : MethodId) (args : Array Value) (below : List Frame) (meth : Method) (c : Code) (A : Nat → Prop) (H : Heap) (locs : List Loc) (cells slots : Nat) (Z : State → Prop) (ls : Array Slot),
    s_C L mi d D tys cA p R s m args c A cells slots → lv_has ls mi.2.2.1 (s_ll ad 0 al) → va_P D vwCl (s_W L.1 ad cA μ) H → va_D A (s_W L.1 ad cA μ) → va_S A s.heap H locs →
    (∀ (v : Option sAV) (μ' : sM) (H' : Heap) (locs' : List Loc) (ls' : Array Slot) (pc' : Nat), Q v μ' → va_P D vwCl (s_W L.1 ad cA μ') H' → va_D A (s_W L.1 ad cA μ') → va_S A s.heap H' locs' → s_ret mi pc' v → W p l e R s m args below meth c H' locs' cells slots Z (F0 m pc' ls' (v.toList.map (s_av ad)))) →
    W p l e R s m args below meth c H locs cells slots Z (F0 m pc ls (st.map (s_av ad)))
theorem sG.mono {L : sLy} {mi : sMI} {d : Nat} {Q Q' : Option sAV → sM → Prop} {pc : Nat} {al : List (Option sAV)} {st : List sAV} {μ : sM} (h : sG L mi d Q pc al st μ) (hQ : ∀ v μ', Q v μ' → Q' v μ') : sG L mi d Q' pc al st μ :=
  fun l D tys ad cA p e R s m args below meth c A H locs cells slots Z ls hC hl hP hD hS hZ => h l D tys ad cA p e R s m args below meth c A H locs cells slots Z ls hC hl hP hD hS (fun v μ' H' locs' ls' pc' q => hZ v μ' H' locs' ls' pc' (hQ v μ' q))
/-- more room is as good -/
theorem sG.more {L : sLy} {mi : sMI} {d d' : Nat} {Q : Option sAV → sM → Prop} {pc : Nat} {al : List (Option sAV)} {st : List sAV} {μ : sM} (h : sG L mi d Q pc al st μ) (hd : d ≤ d') : sG L mi d' Q pc al st μ :=
  fun l D tys ad cA p e R s m args below meth c A H locs cells slots Z ls hC hl hP hD hS hZ => h l D tys ad cA p e R s m args below meth c A H locs cells slots Z ls (by
    obtain ⟨h1, h2, h3, h4, h5, h6, h7, h8, ⟨q1, q2, q3, q4⟩, h10⟩ := hC
    exact ⟨h1, h2, h3, h4, h5, h6, h7, h8, ⟨by omega, by omega, q3, q4⟩, h10⟩) hl hP hD hS hZ
/-- a call of mi from its entry -/
abbrev sCl (L : sLy) (mi : sMI) (d : Nat) (as : List sAV) (μ : sM) (K : Option sAV → sM → Prop) : Prop := sG L mi d K 0 (s_ent as) [] μ
/-- what is asked of an answer: an int, a long, nothing -/
def kI (f : Int32 → sM → Prop) : Option sAV → sM → Prop := fun v μ => match v with
  | some (.inl x) => f x μ
  | _ => False
def kL (f : Int64 → sM → Prop) : Option sAV → sM → Prop := fun v μ => match v with
  | some (.inr (.inl x)) => f x μ
  | _ => False
def kV (f : sM → Prop) : Option sAV → sM → Prop := fun v μ => match v with
  | none => f μ
  | _ => False
/-- the contract's start, for the kit -/
def s_Pc (L : sLy) (D : va_G) (tys : List (ClassId × FieldType)) (ad : Nat → Nat) (cA : Nat → ClassId) (sz : Nat) (as : List sAV) (μ : sM) : Array Value → State → Prop := va_Pc (as.map (s_av ad)) (fun U => U.heap.size = sz ∧ va_P D vwCl (s_W L.1 ad cA μ) U.heap ∧ va_K D vwCl tys U ∧ (∀ w ∈ sTn, va_Nw w U) ∧ va_D (fun _ => True) (s_W L.1 ad cA μ))
def s_B (L : sLy) (D : va_G) (ad : Nat → Nat) (cA : Nat → ClassId) (A : Nat → Prop) (μ : sM) (t : State) : Prop := va_P D vwCl (s_W L.1 ad cA μ) t.heap ∧ va_D A (s_W L.1 ad cA μ)
def s_rm (d : Nat) : Room := { frames := d, cells := 0, slots := 0, locals := 60 * d }
theorem s_blind {L : sLy} {D : va_G} {tys : List (ClassId × FieldType)} {ad : Nat → Nat} {cA : Nat → ClassId} {sz : Nat} {as : List sAV} {μ : sM} : FrameBlind (s_Pc L D tys ad cA sz as μ) := fun a U g mk q => by
  obtain ⟨q0, q1, qP, qK, qN, qD⟩ := q
  exact ⟨q0, q1, qP, va_K.moved (u := U) (U := U.calling g mk a) (Vm.Alike.refl U.vm) qK, sTn_same (u := U) (U := U.calling g mk a) rfl qN, qD⟩
/-- the walk of a method's body out of sG, for any end Qc that takes what the kit's returns give -/
theorem s_body {L : sLy} {mi : sMI} {n : Nat} (hF : s_MF mi n) (l : Launch) {D : va_G} {tys : List (ClassId × FieldType)} {ad : Nat → Nat} {cA : Nat → ClassId} {sz d : Nat} {as : List sAV} {μ : sM} {K : Option sAV → sM → Prop} {Qc : Array Value → State → Outcome → State → Prop}
    (hT : ∀ r k, L.1[r]? = some k → (∃ n, k = sA_ n) ∨ (∃ n b, k = sQ_ n b) → (cA r, L.2 r) ∈ tys) (hlen : (s_ent as).length ≤ mi.2.2.1) (h : sCl L mi d as μ K)
    (hQ : ∀ (args : Array Value) (s t : State) (v : Option sAV) (μ' : sM) (H : Heap) (locs : List Loc), s.heap.size = sz → K v μ' → va_P D vwCl (s_W L.1 ad cA μ') H → va_D (va_A (s_W L.1 ad cA μ) sz) (s_W L.1 ad cA μ') → va_S (va_A (s_W L.1 ad cA μ) sz) s.heap H locs → t.heap = H → Qc args s (.returned (v.map (s_av ad))) t) :
    Met l mi.1 (Cond.code mi.1 mi.2.1 mi.2.2.1 mi.2.2.2 :: sT) (s_rm d) (s_Pc L D tys ad cA sz as μ) Qc 0 0 (va_A (s_W L.1 ad cA μ) sz) := by
  obtain ⟨f1, f2, f3, f4, f5, f6⟩ := hF
  refine Met.ofW (cc := mi.2.1) (maxL := mi.2.2.1) (ret := mi.2.2.2) f5 rfl ?_
  intro p e s m args below meth c s₁ B hml hv
  obtain ⟨rfl, hsz, hP, hK, hN, hD0⟩ := hv
  have hx := B.exec
  have hb := B.bytes
  have hr := B.returns
  have hts := atoms_spec (ws := Cond.code mi.1 mi.2.1 mi.2.2.1 mi.2.2.2 :: sT) B.pre
  have hown : s.vm.findClass mi.1.cls = some m.cls := findClass_of_methodNamed B.named
  have hlocks := B.notSynchronized
  subst hsz
  have hD := hD0.self (sz := s.heap.size)
  have hl := lv_entry (as.map (s_av ad)) (n := mi.2.2.1) (by rw [s_ent_len]; exact hlen)
  rw [lg_entry_eq]
  generalize (lg_sl (as.map (s_av ad)) ++ List.replicate (mi.2.2.1 - (lg_sl (as.map (s_av ad))).length) Slot.unset).toArray = ls at hl ⊢
  rw [← s_ent_args] at hl
  refine h l D tys ad cA p e _ s m _ below meth c (va_A (s_W L.1 ad cA μ) s.heap.size) s.heap [] 0 0 _ ls ⟨hx, hb, hml, hown, fun w hw => hts w (List.mem_cons_of_mem _ hw), hN, hK, hT, ⟨Nat.le_refl _, Nat.le_refl _, Nat.zero_le _, Nat.zero_le _⟩, fun q hq => Or.inr hq⟩ hl hP hD va_S.rf ?_
  intro v μ' H' locs' ls' pc' hKv hP' hD' hS' hret
  match v, hKv, hret with
  | none, hKv, hret =>
    exact W.vret hx hb (hr.trans hret.2) (fun t ht hW => hQ _ s t none μ' H' locs' rfl hKv hP' hD' hS' ht) hS'.2.2 hret.1
  | some (.inl x), hKv, hret =>
    obtain ⟨h1, ty, h2, h3⟩ := hret
    exact W.zret hx hb (hr.trans h2) h3 (fun t ht hW => hQ _ s t (some (.inl x)) μ' H' locs' rfl hKv hP' hD' hS' ht) hS'.2.2 h1
  | some (.inr (.inl x)), hKv, hret =>
    exact W.lret hx hb (hr.trans hret.2) (fun t ht hW => hQ _ s t (some (.inr (.inl x))) μ' H' locs' rfl hKv hP' hD' hS' ht) hS'.2.2 hret.1
  | some (.inr (.inr x)), hKv, hret => exact hret.elim
theorem s_metI {L : sLy} {mi : sMI} {n : Nat} (hF : s_MF mi n) (l : Launch) {D : va_G} {tys : List (ClassId × FieldType)} {ad : Nat → Nat} {cA : Nat → ClassId} {sz d : Nat} {as : List sAV} {μ : sM} {f : Int32 → sM → Prop}
    (hT : ∀ r k, L.1[r]? = some k → (∃ n, k = sA_ n) ∨ (∃ n b, k = sQ_ n b) → (cA r, L.2 r) ∈ tys) (hlen : (s_ent as).length ≤ mi.2.2.1) (h : sCl L mi d as μ (kI f)) :
    Met l mi.1 (Cond.code mi.1 mi.2.1 mi.2.2.1 mi.2.2.2 :: sT) (s_rm d) (s_Pc L D tys ad cA sz as μ) (va_Qi f (s_B L D ad cA (va_A (s_W L.1 ad cA μ) sz)) (va_A (s_W L.1 ad cA μ) sz)) 0 0 (va_A (s_W L.1 ad cA μ) sz) := by
  refine s_body hF l hT hlen h ?_
  intro args s t v μ' H locs hsz hK hP hD hS ht
  match v, hK with
  | some (.inl x), hK => exact ⟨⟨x, μ', rfl, hK, by rw [ht]; exact hP, hD⟩, hS.F ht⟩
  | none, hK => exact hK.elim
  | some (.inr x), hK => exact hK.elim
theorem s_metL {L : sLy} {mi : sMI} {n : Nat} (hF : s_MF mi n) (l : Launch) {D : va_G} {tys : List (ClassId × FieldType)} {ad : Nat → Nat} {cA : Nat → ClassId} {sz d : Nat} {as : List sAV} {μ : sM} {f : Int64 → sM → Prop}
    (hT : ∀ r k, L.1[r]? = some k → (∃ n, k = sA_ n) ∨ (∃ n b, k = sQ_ n b) → (cA r, L.2 r) ∈ tys) (hlen : (s_ent as).length ≤ mi.2.2.1) (h : sCl L mi d as μ (kL f)) :
    Met l mi.1 (Cond.code mi.1 mi.2.1 mi.2.2.1 mi.2.2.2 :: sT) (s_rm d) (s_Pc L D tys ad cA sz as μ) (va_Ql f (s_B L D ad cA (va_A (s_W L.1 ad cA μ) sz)) (va_A (s_W L.1 ad cA μ) sz)) 0 0 (va_A (s_W L.1 ad cA μ) sz) := by
  refine s_body hF l hT hlen h ?_
  intro args s t v μ' H locs hsz hK hP hD hS ht
  match v, hK with
  | some (.inr (.inl x)), hK => exact ⟨⟨x, μ', rfl, hK, by rw [ht]; exact hP, hD⟩, hS.F ht⟩
  | none, hK => exact hK.elim
  | some (.inl x), hK => exact hK.elim
  | some (.inr (.inr x)), hK => exact hK.elim
theorem s_metV {L : sLy} {mi : sMI} {n : Nat} (hF : s_MF mi n) (l : Launch) {D : va_G} {tys : List (ClassId × FieldType)} {ad : Nat → Nat} {cA : Nat → ClassId} {sz d : Nat} {as : List sAV} {μ : sM} {f : sM → Prop}
    (hT : ∀ r k, L.1[r]? = some k → (∃ n, k = sA_ n) ∨ (∃ n b, k = sQ_ n b) → (cA r, L.2 r) ∈ tys) (hlen : (s_ent as).length ≤ mi.2.2.1) (h : sCl L mi d as μ (kV f)) :
    Met l mi.1 (Cond.code mi.1 mi.2.1 mi.2.2.1 mi.2.2.2 :: sT) (s_rm d) (s_Pc L D tys ad cA sz as μ) (va_Qv f (s_B L D ad cA (va_A (s_W L.1 ad cA μ) sz)) (va_A (s_W L.1 ad cA μ) sz)) 0 0 (va_A (s_W L.1 ad cA μ) sz) := by
  refine s_body hF l hT hlen h ?_
  intro args s t v μ' H locs hsz hK hP hD hS ht
  match v, hK with
  | none, hK => exact ⟨⟨μ', rfl, hK, by rw [ht]; exact hP, hD⟩, hS.F ht⟩
  | some x, hK => exact hK.elim
end
section
-- ROWS OF sG: an instruction each (printed by wip/whole/gen_rows.py)
theorem g_iconst {L : sLy} {mi : sMI} {d : Nat} {Q : Option sAV → sM → Prop} {pc : Nat} {al : List (Option sAV)} {st : List sAV} {μ : sM} {n : Int} (v : Int32) (hd : decode mi.2.1 pc = .ok (.iconst n, 1)) (hv : Int32.ofInt n = v) (k : sG L mi d Q (pc + 1) al (sI v :: st) μ) : sG L mi d Q pc al (st) μ := by
  intro l D tys ad cA p e R s m args below meth c A H locs cells slots Z ls hC hl hP hD hS hZ
  exact lv_iconst hC.1 hC.2.1 hd hv (k l D tys ad cA p e R s m args below meth c A H locs cells slots Z ls hC hl hP hD hS hZ)
theorem g_bipush {L : sLy} {mi : sMI} {d : Nat} {Q : Option sAV → sM → Prop} {pc : Nat} {al : List (Option sAV)} {st : List sAV} {μ : sM} {n : Int} (v : Int32) (hd : decode mi.2.1 pc = .ok (.bipush n, 2)) (hv : (Int8.ofInt n).toInt32 = v) (k : sG L mi d Q (pc + 2) al (sI v :: st) μ) : sG L mi d Q pc al (st) μ := by
  intro l D tys ad cA p e R s m args below meth c A H locs cells slots Z ls hC hl hP hD hS hZ
  exact lv_bipush hC.1 hC.2.1 hd hv (k l D tys ad cA p e R s m args below meth c A H locs cells slots Z ls hC hl hP hD hS hZ)
theorem g_sipush {L : sLy} {mi : sMI} {d : Nat} {Q : Option sAV → sM → Prop} {pc : Nat} {al : List (Option sAV)} {st : List sAV} {μ : sM} {n : Int} (v : Int32) (hd : decode mi.2.1 pc = .ok (.sipush n, 3)) (hv : (Int16.ofInt n).toInt32 = v) (k : sG L mi d Q (pc + 3) al (sI v :: st) μ) : sG L mi d Q pc al (st) μ := by
  intro l D tys ad cA p e R s m args below meth c A H locs cells slots Z ls hC hl hP hD hS hZ
  exact lv_sipush hC.1 hC.2.1 hd hv (k l D tys ad cA p e R s m args below meth c A H locs cells slots Z ls hC hl hP hD hS hZ)
theorem g_lconst {L : sLy} {mi : sMI} {d : Nat} {Q : Option sAV → sM → Prop} {pc : Nat} {al : List (Option sAV)} {st : List sAV} {μ : sM} {n : Fin 2} (v : Int64) (hd : decode mi.2.1 pc = .ok (.lconst n, 1)) (hv : Int64.ofNat (n : Nat) = v) (k : sG L mi d Q (pc + 1) al (sL v :: st) μ) : sG L mi d Q pc al (st) μ := by
  intro l D tys ad cA p e R s m args below meth c A H locs cells slots Z ls hC hl hP hD hS hZ
  exact lv_lconst hC.1 hC.2.1 hd hv (k l D tys ad cA p e R s m args below meth c A H locs cells slots Z ls hC hl hP hD hS hZ)
theorem g_ldc {L : sLy} {mi : sMI} {d : Nat} {Q : Option sAV → sM → Prop} {pc : Nat} {al : List (Option sAV)} {st : List sAV} {μ : sM} {i : Nat} {v : Int32} (hd : decode mi.2.1 pc = .ok (.ldc i, 2)) (hw : Cond.constant mi.1.cls i v ∈ sT) (k : sG L mi d Q (pc + 2) al (sI v :: st) μ) : sG L mi d Q pc al st μ := by
  intro l D tys ad cA p e R s m args below meth c A H locs cells slots Z ls hC hl hP hD hS hZ
  exact lv_ldc hC.1 hC.2.1 hC.2.2.2.1 (hC.2.2.2.2.1 _ hw) hd (k l D tys ad cA p e R s m args below meth c A H locs cells slots Z ls hC hl hP hD hS hZ)
theorem g_ldcw {L : sLy} {mi : sMI} {d : Nat} {Q : Option sAV → sM → Prop} {pc : Nat} {al : List (Option sAV)} {st : List sAV} {μ : sM} {i : Nat} {v : Int32} (hd : decode mi.2.1 pc = .ok (.ldc_w i, 3)) (hw : Cond.constant mi.1.cls i v ∈ sT) (k : sG L mi d Q (pc + 3) al (sI v :: st) μ) : sG L mi d Q pc al st μ := by
  intro l D tys ad cA p e R s m args below meth c A H locs cells slots Z ls hC hl hP hD hS hZ
  exact lv_ldcw hC.1 hC.2.1 hC.2.2.2.1 (hC.2.2.2.2.1 _ hw) hd (k l D tys ad cA p e R s m args below meth c A H locs cells slots Z ls hC hl hP hD hS hZ)
theorem g_ldc2 {L : sLy} {mi : sMI} {d : Nat} {Q : Option sAV → sM → Prop} {pc : Nat} {al : List (Option sAV)} {st : List sAV} {μ : sM} {i : Nat} {v : Int64} (hd : decode mi.2.1 pc = .ok (.ldc2_w i, 3)) (hw : Cond.constantLong mi.1.cls i v ∈ sT) (k : sG L mi d Q (pc + 3) al (sL v :: st) μ) : sG L mi d Q pc al st μ := by
  intro l D tys ad cA p e R s m args below meth c A H locs cells slots Z ls hC hl hP hD hS hZ
  exact lv_ldc2 hC.1 hC.2.1 hC.2.2.2.1 (hC.2.2.2.2.1 _ hw) hd (k l D tys ad cA p e R s m args below meth c A H locs cells slots Z ls hC hl hP hD hS hZ)
theorem g_iload_n {L : sLy} {mi : sMI} {d : Nat} {Q : Option sAV → sM → Prop} {pc : Nat} {al : List (Option sAV)} {st : List sAV} {μ : sM} {k4 : Fin 4} {x : Int32} (hd : decode mi.2.1 pc = .ok (.iload_n k4, 1)) (ha : al[(k4 : Nat)]? = some (some (sI x))) (k : sG L mi d Q (pc + 1) al (sI x :: st) μ) : sG L mi d Q pc al st μ := by
  intro l D tys ad cA p e R s m args below meth c A H locs cells slots Z ls hC hl hP hD hS hZ
  exact lv_iload_n hC.1 hC.2.1 hd rfl (s_lv_at hl ha) (k l D tys ad cA p e R s m args below meth c A H locs cells slots Z ls hC hl hP hD hS hZ)
theorem g_iload {L : sLy} {mi : sMI} {d : Nat} {Q : Option sAV → sM → Prop} {pc : Nat} {al : List (Option sAV)} {st : List sAV} {μ : sM} {i : Nat} {x : Int32} (hd : decode mi.2.1 pc = .ok (.iload i, 2)) (ha : al[i]? = some (some (sI x))) (k : sG L mi d Q (pc + 2) al (sI x :: st) μ) : sG L mi d Q pc al st μ := by
  intro l D tys ad cA p e R s m args below meth c A H locs cells slots Z ls hC hl hP hD hS hZ
  exact lv_iload hC.1 hC.2.1 hd (s_lv_at hl ha) (k l D tys ad cA p e R s m args below meth c A H locs cells slots Z ls hC hl hP hD hS hZ)
theorem g_lload_n {L : sLy} {mi : sMI} {d : Nat} {Q : Option sAV → sM → Prop} {pc : Nat} {al : List (Option sAV)} {st : List sAV} {μ : sM} {k4 : Fin 4} {x : Int64} (hd : decode mi.2.1 pc = .ok (.lload_n k4, 1)) (ha : al[(k4 : Nat)]? = some (some (sL x))) (k : sG L mi d Q (pc + 1) al (sL x :: st) μ) : sG L mi d Q pc al st μ := by
  intro l D tys ad cA p e R s m args below meth c A H locs cells slots Z ls hC hl hP hD hS hZ
  exact lv_lload_n hC.1 hC.2.1 hd rfl (s_lv_at hl ha) (k l D tys ad cA p e R s m args below meth c A H locs cells slots Z ls hC hl hP hD hS hZ)
theorem g_lload {L : sLy} {mi : sMI} {d : Nat} {Q : Option sAV → sM → Prop} {pc : Nat} {al : List (Option sAV)} {st : List sAV} {μ : sM} {i : Nat} {x : Int64} (hd : decode mi.2.1 pc = .ok (.lload i, 2)) (ha : al[i]? = some (some (sL x))) (k : sG L mi d Q (pc + 2) al (sL x :: st) μ) : sG L mi d Q pc al st μ := by
  intro l D tys ad cA p e R s m args below meth c A H locs cells slots Z ls hC hl hP hD hS hZ
  exact lv_lload hC.1 hC.2.1 hd (s_lv_at hl ha) (k l D tys ad cA p e R s m args below meth c A H locs cells slots Z ls hC hl hP hD hS hZ)
theorem g_aload_n {L : sLy} {mi : sMI} {d : Nat} {Q : Option sAV → sM → Prop} {pc : Nat} {al : List (Option sAV)} {st : List sAV} {μ : sM} {k4 : Fin 4} {x : Nat} (hd : decode mi.2.1 pc = .ok (.aload_n k4, 1)) (ha : al[(k4 : Nat)]? = some (some (sR x))) (k : sG L mi d Q (pc + 1) al (sR x :: st) μ) : sG L mi d Q pc al st μ := by
  intro l D tys ad cA p e R s m args below meth c A H locs cells slots Z ls hC hl hP hD hS hZ
  exact lv_aload_n hC.1 hC.2.1 hd rfl (s_lv_at hl ha) (k l D tys ad cA p e R s m args below meth c A H locs cells slots Z ls hC hl hP hD hS hZ)
theorem g_aload {L : sLy} {mi : sMI} {d : Nat} {Q : Option sAV → sM → Prop} {pc : Nat} {al : List (Option sAV)} {st : List sAV} {μ : sM} {i : Nat} {x : Nat} (hd : decode mi.2.1 pc = .ok (.aload i, 2)) (ha : al[i]? = some (some (sR x))) (k : sG L mi d Q (pc + 2) al (sR x :: st) μ) : sG L mi d Q pc al st μ := by
  intro l D tys ad cA p e R s m args below meth c A H locs cells slots Z ls hC hl hP hD hS hZ
  exact lv_aload hC.1 hC.2.1 hd (s_lv_at hl ha) (k l D tys ad cA p e R s m args below meth c A H locs cells slots Z ls hC hl hP hD hS hZ)
theorem g_istore_n {L : sLy} {mi : sMI} {d : Nat} {Q : Option sAV → sM → Prop} {pc : Nat} {al : List (Option sAV)} {st : List sAV} {μ : sM} {k4 : Fin 4} {i : Nat} {x : Int32} (al2 : List (Option sAV)) (hd : decode mi.2.1 pc = .ok (.istore_n k4, 1)) (hi : (k4 : Nat) = i) (hn : i < mi.2.2.1) (h2 : s_st1 al i (sI x) = al2) (k : sG L mi d Q (pc + 1) al2 st μ) : sG L mi d Q pc al (sI x :: st) μ := by
  intro l D tys ad cA p e R s m args below meth c A H locs cells slots Z ls hC hl hP hD hS hZ
  subst h2
  exact lv_istore_n hC.1 hC.2.1 hd hi hl hn rfl (fun ls hl => k l D tys ad cA p e R s m args below meth c A H locs cells slots Z ls hC (s_lv_sub hl s_st1_in) hP hD hS hZ)
theorem g_istore {L : sLy} {mi : sMI} {d : Nat} {Q : Option sAV → sM → Prop} {pc : Nat} {al : List (Option sAV)} {st : List sAV} {μ : sM} {i : Nat} {x : Int32} (al2 : List (Option sAV)) (hd : decode mi.2.1 pc = .ok (.istore i, 2)) (hn : i < mi.2.2.1) (h2 : s_st1 al i (sI x) = al2) (k : sG L mi d Q (pc + 2) al2 st μ) : sG L mi d Q pc al (sI x :: st) μ := by
  intro l D tys ad cA p e R s m args below meth c A H locs cells slots Z ls hC hl hP hD hS hZ
  subst h2
  exact lv_istore hC.1 hC.2.1 hd hl hn rfl (fun ls hl => k l D tys ad cA p e R s m args below meth c A H locs cells slots Z ls hC (s_lv_sub hl s_st1_in) hP hD hS hZ)
theorem g_lstore_n {L : sLy} {mi : sMI} {d : Nat} {Q : Option sAV → sM → Prop} {pc : Nat} {al : List (Option sAV)} {st : List sAV} {μ : sM} {k4 : Fin 4} {i : Nat} {x : Int64} (al2 : List (Option sAV)) (hd : decode mi.2.1 pc = .ok (.lstore_n k4, 1)) (hi : (k4 : Nat) = i) (hn : i + 1 < mi.2.2.1) (h2 : s_st2 al i (sL x) = al2) (k : sG L mi d Q (pc + 1) al2 st μ) : sG L mi d Q pc al (sL x :: st) μ := by
  intro l D tys ad cA p e R s m args below meth c A H locs cells slots Z ls hC hl hP hD hS hZ
  subst h2
  exact lv_lstore_n hC.1 hC.2.1 hd hi hl hn rfl (fun ls hl => k l D tys ad cA p e R s m args below meth c A H locs cells slots Z ls hC (s_lv_sub hl s_st2_in) hP hD hS hZ)
theorem g_lstore {L : sLy} {mi : sMI} {d : Nat} {Q : Option sAV → sM → Prop} {pc : Nat} {al : List (Option sAV)} {st : List sAV} {μ : sM} {i : Nat} {x : Int64} (al2 : List (Option sAV)) (hd : decode mi.2.1 pc = .ok (.lstore i, 2)) (hn : i + 1 < mi.2.2.1) (h2 : s_st2 al i (sL x) = al2) (k : sG L mi d Q (pc + 2) al2 st μ) : sG L mi d Q pc al (sL x :: st) μ := by
  intro l D tys ad cA p e R s m args below meth c A H locs cells slots Z ls hC hl hP hD hS hZ
  subst h2
  exact lv_lstore hC.1 hC.2.1 hd hl hn rfl (fun ls hl => k l D tys ad cA p e R s m args below meth c A H locs cells slots Z ls hC (s_lv_sub hl s_st2_in) hP hD hS hZ)
theorem g_iinc {L : sLy} {mi : sMI} {d : Nat} {Q : Option sAV → sM → Prop} {pc : Nat} {al : List (Option sAV)} {st : List sAV} {μ : sM} {i : Nat} {n : Int} {x : Int32} (v : Int32) (al2 : List (Option sAV)) (hd : decode mi.2.1 pc = .ok (.iinc i n, 3)) (ha : al[i]? = some (some (sI x))) (hv : x + Int32.ofInt n = v) (hn : i < mi.2.2.1) (h2 : s_st1 al i (sI v) = al2) (k : sG L mi d Q (pc + 3) al2 st μ) : sG L mi d Q pc al st μ := by
  intro l D tys ad cA p e R s m args below meth c A H locs cells slots Z ls hC hl hP hD hS hZ
  subst h2
  obtain ⟨j, hj⟩ := List.getElem?_of_mem (s_ll_mem.mpr ⟨i, sI x, (Nat.zero_add i).symm, ha, rfl⟩ : (i, s_av ad (sI x)) ∈ s_ll ad 0 al)
  exact lv_iinc hC.1 hC.2.1 hd hl hj hv hn rfl (fun ls hl => k l D tys ad cA p e R s m args below meth c A H locs cells slots Z ls hC (s_lv_sub hl s_st1_in) hP hD hS hZ)
theorem g_iadd {L : sLy} {mi : sMI} {d : Nat} {Q : Option sAV → sM → Prop} {pc : Nat} {al : List (Option sAV)} {st : List sAV} {μ : sM} {x y : Int32} (hd : decode mi.2.1 pc = .ok (.iadd, 1))  (k : sG L mi d Q (pc + 1) al (sI (x + y) :: st) μ) : sG L mi d Q pc al (sI y :: sI x :: st) μ := by
  intro l D tys ad cA p e R s m args below meth c A H locs cells slots Z ls hC hl hP hD hS hZ
  exact lv_iadd hC.1 hC.2.1 hd (k l D tys ad cA p e R s m args below meth c A H locs cells slots Z ls hC hl hP hD hS hZ)
theorem g_isub {L : sLy} {mi : sMI} {d : Nat} {Q : Option sAV → sM → Prop} {pc : Nat} {al : List (Option sAV)} {st : List sAV} {μ : sM} {x y : Int32} (hd : decode mi.2.1 pc = .ok (.isub, 1))  (k : sG L mi d Q (pc + 1) al (sI (x - y) :: st) μ) : sG L mi d Q pc al (sI y :: sI x :: st) μ := by
  intro l D tys ad cA p e R s m args below meth c A H locs cells slots Z ls hC hl hP hD hS hZ
  exact lv_isub hC.1 hC.2.1 hd (k l D tys ad cA p e R s m args below meth c A H locs cells slots Z ls hC hl hP hD hS hZ)
theorem g_imul {L : sLy} {mi : sMI} {d : Nat} {Q : Option sAV → sM → Prop} {pc : Nat} {al : List (Option sAV)} {st : List sAV} {μ : sM} {x y : Int32} (hd : decode mi.2.1 pc = .ok (.imul, 1))  (k : sG L mi d Q (pc + 1) al (sI (x * y) :: st) μ) : sG L mi d Q pc al (sI y :: sI x :: st) μ := by
  intro l D tys ad cA p e R s m args below meth c A H locs cells slots Z ls hC hl hP hD hS hZ
  exact lv_imul hC.1 hC.2.1 hd (k l D tys ad cA p e R s m args below meth c A H locs cells slots Z ls hC hl hP hD hS hZ)
theorem g_iand {L : sLy} {mi : sMI} {d : Nat} {Q : Option sAV → sM → Prop} {pc : Nat} {al : List (Option sAV)} {st : List sAV} {μ : sM} {x y : Int32} (hd : decode mi.2.1 pc = .ok (.iand, 1))  (k : sG L mi d Q (pc + 1) al (sI (x &&& y) :: st) μ) : sG L mi d Q pc al (sI y :: sI x :: st) μ := by
  intro l D tys ad cA p e R s m args below meth c A H locs cells slots Z ls hC hl hP hD hS hZ
  exact lv_iand hC.1 hC.2.1 hd (k l D tys ad cA p e R s m args below meth c A H locs cells slots Z ls hC hl hP hD hS hZ)
theorem g_ior {L : sLy} {mi : sMI} {d : Nat} {Q : Option sAV → sM → Prop} {pc : Nat} {al : List (Option sAV)} {st : List sAV} {μ : sM} {x y : Int32} (hd : decode mi.2.1 pc = .ok (.ior, 1))  (k : sG L mi d Q (pc + 1) al (sI (x ||| y) :: st) μ) : sG L mi d Q pc al (sI y :: sI x :: st) μ := by
  intro l D tys ad cA p e R s m args below meth c A H locs cells slots Z ls hC hl hP hD hS hZ
  exact lv_ior hC.1 hC.2.1 hd (k l D tys ad cA p e R s m args below meth c A H locs cells slots Z ls hC hl hP hD hS hZ)
theorem g_ixor {L : sLy} {mi : sMI} {d : Nat} {Q : Option sAV → sM → Prop} {pc : Nat} {al : List (Option sAV)} {st : List sAV} {μ : sM} {x y : Int32} (hd : decode mi.2.1 pc = .ok (.ixor, 1))  (k : sG L mi d Q (pc + 1) al (sI (x ^^^ y) :: st) μ) : sG L mi d Q pc al (sI y :: sI x :: st) μ := by
  intro l D tys ad cA p e R s m args below meth c A H locs cells slots Z ls hC hl hP hD hS hZ
  exact lv_ixor hC.1 hC.2.1 hd (k l D tys ad cA p e R s m args below meth c A H locs cells slots Z ls hC hl hP hD hS hZ)
theorem g_ishl {L : sLy} {mi : sMI} {d : Nat} {Q : Option sAV → sM → Prop} {pc : Nat} {al : List (Option sAV)} {st : List sAV} {μ : sM} {x y : Int32} (hd : decode mi.2.1 pc = .ok (.ishl, 1))  (k : sG L mi d Q (pc + 1) al (sI (x <<< (y &&& 31)) :: st) μ) : sG L mi d Q pc al (sI y :: sI x :: st) μ := by
  intro l D tys ad cA p e R s m args below meth c A H locs cells slots Z ls hC hl hP hD hS hZ
  exact lv_ishl hC.1 hC.2.1 hd (k l D tys ad cA p e R s m args below meth c A H locs cells slots Z ls hC hl hP hD hS hZ)
theorem g_ishr {L : sLy} {mi : sMI} {d : Nat} {Q : Option sAV → sM → Prop} {pc : Nat} {al : List (Option sAV)} {st : List sAV} {μ : sM} {x y : Int32} (hd : decode mi.2.1 pc = .ok (.ishr, 1))  (k : sG L mi d Q (pc + 1) al (sI (x >>> (y &&& 31)) :: st) μ) : sG L mi d Q pc al (sI y :: sI x :: st) μ := by
  intro l D tys ad cA p e R s m args below meth c A H locs cells slots Z ls hC hl hP hD hS hZ
  exact lv_ishr hC.1 hC.2.1 hd (k l D tys ad cA p e R s m args below meth c A H locs cells slots Z ls hC hl hP hD hS hZ)
theorem g_iushr {L : sLy} {mi : sMI} {d : Nat} {Q : Option sAV → sM → Prop} {pc : Nat} {al : List (Option sAV)} {st : List sAV} {μ : sM} {x y : Int32} (hd : decode mi.2.1 pc = .ok (.iushr, 1))  (k : sG L mi d Q (pc + 1) al (sI ((x.toUInt32 >>> (y.toUInt32 &&& Int32.toUInt32 31)).toInt32) :: st) μ) : sG L mi d Q pc al (sI y :: sI x :: st) μ := by
  intro l D tys ad cA p e R s m args below meth c A H locs cells slots Z ls hC hl hP hD hS hZ
  exact lv_iushr hC.1 hC.2.1 hd rfl (k l D tys ad cA p e R s m args below meth c A H locs cells slots Z ls hC hl hP hD hS hZ)
theorem g_ineg {L : sLy} {mi : sMI} {d : Nat} {Q : Option sAV → sM → Prop} {pc : Nat} {al : List (Option sAV)} {st : List sAV} {μ : sM} {x : Int32} (hd : decode mi.2.1 pc = .ok (.ineg, 1))  (k : sG L mi d Q (pc + 1) al (sI (-x) :: st) μ) : sG L mi d Q pc al (sI x :: st) μ := by
  intro l D tys ad cA p e R s m args below meth c A H locs cells slots Z ls hC hl hP hD hS hZ
  exact lv_ineg hC.1 hC.2.1 hd (k l D tys ad cA p e R s m args below meth c A H locs cells slots Z ls hC hl hP hD hS hZ)
theorem g_idiv {L : sLy} {mi : sMI} {d : Nat} {Q : Option sAV → sM → Prop} {pc : Nat} {al : List (Option sAV)} {st : List sAV} {μ : sM} {x y : Int32} (hd : decode mi.2.1 pc = .ok (.idiv, 1)) (hne : ¬ y = 0) (k : sG L mi d Q (pc + 1) al (sI (x / y) :: st) μ) : sG L mi d Q pc al (sI y :: sI x :: st) μ := by
  intro l D tys ad cA p e R s m args below meth c A H locs cells slots Z ls hC hl hP hD hS hZ
  exact lv_idiv hC.1 hC.2.1 hd hne (k l D tys ad cA p e R s m args below meth c A H locs cells slots Z ls hC hl hP hD hS hZ)
theorem g_irem {L : sLy} {mi : sMI} {d : Nat} {Q : Option sAV → sM → Prop} {pc : Nat} {al : List (Option sAV)} {st : List sAV} {μ : sM} {x y : Int32} (hd : decode mi.2.1 pc = .ok (.irem, 1)) (hne : ¬ y = 0) (k : sG L mi d Q (pc + 1) al (sI (x - x / y * y) :: st) μ) : sG L mi d Q pc al (sI y :: sI x :: st) μ := by
  intro l D tys ad cA p e R s m args below meth c A H locs cells slots Z ls hC hl hP hD hS hZ
  exact lv_irem hC.1 hC.2.1 hd hne (k l D tys ad cA p e R s m args below meth c A H locs cells slots Z ls hC hl hP hD hS hZ)
theorem g_ladd {L : sLy} {mi : sMI} {d : Nat} {Q : Option sAV → sM → Prop} {pc : Nat} {al : List (Option sAV)} {st : List sAV} {μ : sM} {x y : Int64} (hd : decode mi.2.1 pc = .ok (.ladd, 1))  (k : sG L mi d Q (pc + 1) al (sL (x + y) :: st) μ) : sG L mi d Q pc al (sL y :: sL x :: st) μ := by
  intro l D tys ad cA p e R s m args below meth c A H locs cells slots Z ls hC hl hP hD hS hZ
  exact lv_ladd hC.1 hC.2.1 hd (k l D tys ad cA p e R s m args below meth c A H locs cells slots Z ls hC hl hP hD hS hZ)
theorem g_lsub {L : sLy} {mi : sMI} {d : Nat} {Q : Option sAV → sM → Prop} {pc : Nat} {al : List (Option sAV)} {st : List sAV} {μ : sM} {x y : Int64} (hd : decode mi.2.1 pc = .ok (.lsub, 1))  (k : sG L mi d Q (pc + 1) al (sL (x - y) :: st) μ) : sG L mi d Q pc al (sL y :: sL x :: st) μ := by
  intro l D tys ad cA p e R s m args below meth c A H locs cells slots Z ls hC hl hP hD hS hZ
  exact lv_lsub hC.1 hC.2.1 hd (k l D tys ad cA p e R s m args below meth c A H locs cells slots Z ls hC hl hP hD hS hZ)
theorem g_lmul {L : sLy} {mi : sMI} {d : Nat} {Q : Option sAV → sM → Prop} {pc : Nat} {al : List (Option sAV)} {st : List sAV} {μ : sM} {x y : Int64} (hd : decode mi.2.1 pc = .ok (.lmul, 1))  (k : sG L mi d Q (pc + 1) al (sL (x * y) :: st) μ) : sG L mi d Q pc al (sL y :: sL x :: st) μ := by
  intro l D tys ad cA p e R s m args below meth c A H locs cells slots Z ls hC hl hP hD hS hZ
  exact lv_lmul hC.1 hC.2.1 hd (k l D tys ad cA p e R s m args below meth c A H locs cells slots Z ls hC hl hP hD hS hZ)
theorem g_ldiv {L : sLy} {mi : sMI} {d : Nat} {Q : Option sAV → sM → Prop} {pc : Nat} {al : List (Option sAV)} {st : List sAV} {μ : sM} {x y : Int64} (hd : decode mi.2.1 pc = .ok (.ldiv, 1)) (hne : ¬ y = 0) (k : sG L mi d Q (pc + 1) al (sL (x / y) :: st) μ) : sG L mi d Q pc al (sL y :: sL x :: st) μ := by
  intro l D tys ad cA p e R s m args below meth c A H locs cells slots Z ls hC hl hP hD hS hZ
  exact lv_ldiv hC.1 hC.2.1 hd hne (k l D tys ad cA p e R s m args below meth c A H locs cells slots Z ls hC hl hP hD hS hZ)
theorem g_lrem {L : sLy} {mi : sMI} {d : Nat} {Q : Option sAV → sM → Prop} {pc : Nat} {al : List (Option sAV)} {st : List sAV} {μ : sM} {x y : Int64} (hd : decode mi.2.1 pc = .ok (.lrem, 1)) (hne : ¬ y = 0) (k : sG L mi d Q (pc + 1) al (sL (x - x / y * y) :: st) μ) : sG L mi d Q pc al (sL y :: sL x :: st) μ := by
  intro l D tys ad cA p e R s m args below meth c A H locs cells slots Z ls hC hl hP hD hS hZ
  exact lv_lrem hC.1 hC.2.1 hd hne (k l D tys ad cA p e R s m args below meth c A H locs cells slots Z ls hC hl hP hD hS hZ)
theorem g_lcmp {L : sLy} {mi : sMI} {d : Nat} {Q : Option sAV → sM → Prop} {pc : Nat} {al : List (Option sAV)} {st : List sAV} {μ : sM} {x y : Int64} (hd : decode mi.2.1 pc = .ok (.lcmp, 1))  (k : sG L mi d Q (pc + 1) al (sI (lg_cmp x y) :: st) μ) : sG L mi d Q pc al (sL y :: sL x :: st) μ := by
  intro l D tys ad cA p e R s m args below meth c A H locs cells slots Z ls hC hl hP hD hS hZ
  exact W.lcmp hC.1 hC.2.1 hd (k l D tys ad cA p e R s m args below meth c A H locs cells slots Z ls hC hl hP hD hS hZ)
theorem g_i2l {L : sLy} {mi : sMI} {d : Nat} {Q : Option sAV → sM → Prop} {pc : Nat} {al : List (Option sAV)} {st : List sAV} {μ : sM} {x : Int32} (hd : decode mi.2.1 pc = .ok (.i2l, 1))  (k : sG L mi d Q (pc + 1) al (sL x.toInt64 :: st) μ) : sG L mi d Q pc al (sI x :: st) μ := by
  intro l D tys ad cA p e R s m args below meth c A H locs cells slots Z ls hC hl hP hD hS hZ
  exact lv_i2l hC.1 hC.2.1 hd rfl (k l D tys ad cA p e R s m args below meth c A H locs cells slots Z ls hC hl hP hD hS hZ)
theorem g_l2i {L : sLy} {mi : sMI} {d : Nat} {Q : Option sAV → sM → Prop} {pc : Nat} {al : List (Option sAV)} {st : List sAV} {μ : sM} {x : Int64} (hd : decode mi.2.1 pc = .ok (.l2i, 1))  (k : sG L mi d Q (pc + 1) al (sI x.toInt32 :: st) μ) : sG L mi d Q pc al (sL x :: st) μ := by
  intro l D tys ad cA p e R s m args below meth c A H locs cells slots Z ls hC hl hP hD hS hZ
  exact lv_l2i hC.1 hC.2.1 hd rfl (k l D tys ad cA p e R s m args below meth c A H locs cells slots Z ls hC hl hP hD hS hZ)
theorem g_dup_i {L : sLy} {mi : sMI} {d : Nat} {Q : Option sAV → sM → Prop} {pc : Nat} {al : List (Option sAV)} {st : List sAV} {μ : sM} {x : Int32} (hd : decode mi.2.1 pc = .ok (.dup, 1))  (k : sG L mi d Q (pc + 1) al (sI x :: sI x :: st) μ) : sG L mi d Q pc al (sI x :: st) μ := by
  intro l D tys ad cA p e R s m args below meth c A H locs cells slots Z ls hC hl hP hD hS hZ
  exact lv_dup hC.1 hC.2.1 hd rfl (k l D tys ad cA p e R s m args below meth c A H locs cells slots Z ls hC hl hP hD hS hZ)
theorem g_dup_r {L : sLy} {mi : sMI} {d : Nat} {Q : Option sAV → sM → Prop} {pc : Nat} {al : List (Option sAV)} {st : List sAV} {μ : sM} {x : Nat} (hd : decode mi.2.1 pc = .ok (.dup, 1))  (k : sG L mi d Q (pc + 1) al (sR x :: sR x :: st) μ) : sG L mi d Q pc al (sR x :: st) μ := by
  intro l D tys ad cA p e R s m args below meth c A H locs cells slots Z ls hC hl hP hD hS hZ
  exact lv_dup hC.1 hC.2.1 hd rfl (k l D tys ad cA p e R s m args below meth c A H locs cells slots Z ls hC hl hP hD hS hZ)
theorem g_dup2 {L : sLy} {mi : sMI} {d : Nat} {Q : Option sAV → sM → Prop} {pc : Nat} {al : List (Option sAV)} {st : List sAV} {μ : sM} {x : Int32} {r : Nat} (hd : decode mi.2.1 pc = .ok (.dup2, 1))  (k : sG L mi d Q (pc + 1) al (sI x :: sR r :: sI x :: sR r :: st) μ) : sG L mi d Q pc al (sI x :: sR r :: st) μ := by
  intro l D tys ad cA p e R s m args below meth c A H locs cells slots Z ls hC hl hP hD hS hZ
  exact lv_dup2_11 hC.1 hC.2.1 hd rfl rfl (k l D tys ad cA p e R s m args below meth c A H locs cells slots Z ls hC hl hP hD hS hZ)
theorem g_if_eq {L : sLy} {mi : sMI} {d : Nat} {Q : Option sAV → sM → Prop} {pc : Nat} {al : List (Option sAV)} {st : List sAV} {μ : sM} {x : Int32} {off : Int} (tgt : Nat) (hd : decode mi.2.1 pc = .ok (.ifCond .eq off, 3)) (ht : (pc : Int) + off = (tgt : Int)) (kt : x = 0 → sG L mi d Q tgt al st μ) (kf : ¬ x = 0 → sG L mi d Q (pc + 3) al st μ) : sG L mi d Q pc al (sI x :: st) μ := by
  intro l D tys ad cA p e R s m args below meth c A H locs cells slots Z ls hC hl hP hD hS hZ
  exact lv_if_eq hC.1 hC.2.1 hd ht (fun q => kt q l D tys ad cA p e R s m args below meth c A H locs cells slots Z ls hC hl hP hD hS hZ) (fun q => kf q l D tys ad cA p e R s m args below meth c A H locs cells slots Z ls hC hl hP hD hS hZ)
theorem g_icmp_eq {L : sLy} {mi : sMI} {d : Nat} {Q : Option sAV → sM → Prop} {pc : Nat} {al : List (Option sAV)} {st : List sAV} {μ : sM} {x y : Int32} {off : Int} (tgt : Nat) (hd : decode mi.2.1 pc = .ok (.if_icmp .eq off, 3)) (ht : (pc : Int) + off = (tgt : Int)) (kt : x = y → sG L mi d Q tgt al st μ) (kf : ¬ x = y → sG L mi d Q (pc + 3) al st μ) : sG L mi d Q pc al (sI y :: sI x :: st) μ := by
  intro l D tys ad cA p e R s m args below meth c A H locs cells slots Z ls hC hl hP hD hS hZ
  exact lv_icmp_eq hC.1 hC.2.1 hd ht (fun q => kt q l D tys ad cA p e R s m args below meth c A H locs cells slots Z ls hC hl hP hD hS hZ) (fun q => kf q l D tys ad cA p e R s m args below meth c A H locs cells slots Z ls hC hl hP hD hS hZ)
theorem g_if_ne {L : sLy} {mi : sMI} {d : Nat} {Q : Option sAV → sM → Prop} {pc : Nat} {al : List (Option sAV)} {st : List sAV} {μ : sM} {x : Int32} {off : Int} (tgt : Nat) (hd : decode mi.2.1 pc = .ok (.ifCond .ne off, 3)) (ht : (pc : Int) + off = (tgt : Int)) (kt : ¬ x = 0 → sG L mi d Q tgt al st μ) (kf : x = 0 → sG L mi d Q (pc + 3) al st μ) : sG L mi d Q pc al (sI x :: st) μ := by
  intro l D tys ad cA p e R s m args below meth c A H locs cells slots Z ls hC hl hP hD hS hZ
  exact lv_if_ne hC.1 hC.2.1 hd ht (fun q => kt q l D tys ad cA p e R s m args below meth c A H locs cells slots Z ls hC hl hP hD hS hZ) (fun q => kf q l D tys ad cA p e R s m args below meth c A H locs cells slots Z ls hC hl hP hD hS hZ)
theorem g_icmp_ne {L : sLy} {mi : sMI} {d : Nat} {Q : Option sAV → sM → Prop} {pc : Nat} {al : List (Option sAV)} {st : List sAV} {μ : sM} {x y : Int32} {off : Int} (tgt : Nat) (hd : decode mi.2.1 pc = .ok (.if_icmp .ne off, 3)) (ht : (pc : Int) + off = (tgt : Int)) (kt : ¬ x = y → sG L mi d Q tgt al st μ) (kf : x = y → sG L mi d Q (pc + 3) al st μ) : sG L mi d Q pc al (sI y :: sI x :: st) μ := by
  intro l D tys ad cA p e R s m args below meth c A H locs cells slots Z ls hC hl hP hD hS hZ
  exact lv_icmp_ne hC.1 hC.2.1 hd ht (fun q => kt q l D tys ad cA p e R s m args below meth c A H locs cells slots Z ls hC hl hP hD hS hZ) (fun q => kf q l D tys ad cA p e R s m args below meth c A H locs cells slots Z ls hC hl hP hD hS hZ)
theorem g_if_lt {L : sLy} {mi : sMI} {d : Nat} {Q : Option sAV → sM → Prop} {pc : Nat} {al : List (Option sAV)} {st : List sAV} {μ : sM} {x : Int32} {off : Int} (tgt : Nat) (hd : decode mi.2.1 pc = .ok (.ifCond .lt off, 3)) (ht : (pc : Int) + off = (tgt : Int)) (kt : x < 0 → sG L mi d Q tgt al st μ) (kf : ¬ x < 0 → sG L mi d Q (pc + 3) al st μ) : sG L mi d Q pc al (sI x :: st) μ := by
  intro l D tys ad cA p e R s m args below meth c A H locs cells slots Z ls hC hl hP hD hS hZ
  exact lv_if_lt hC.1 hC.2.1 hd ht (fun q => kt q l D tys ad cA p e R s m args below meth c A H locs cells slots Z ls hC hl hP hD hS hZ) (fun q => kf q l D tys ad cA p e R s m args below meth c A H locs cells slots Z ls hC hl hP hD hS hZ)
theorem g_icmp_lt {L : sLy} {mi : sMI} {d : Nat} {Q : Option sAV → sM → Prop} {pc : Nat} {al : List (Option sAV)} {st : List sAV} {μ : sM} {x y : Int32} {off : Int} (tgt : Nat) (hd : decode mi.2.1 pc = .ok (.if_icmp .lt off, 3)) (ht : (pc : Int) + off = (tgt : Int)) (kt : x < y → sG L mi d Q tgt al st μ) (kf : ¬ x < y → sG L mi d Q (pc + 3) al st μ) : sG L mi d Q pc al (sI y :: sI x :: st) μ := by
  intro l D tys ad cA p e R s m args below meth c A H locs cells slots Z ls hC hl hP hD hS hZ
  exact lv_icmp_lt hC.1 hC.2.1 hd ht (fun q => kt q l D tys ad cA p e R s m args below meth c A H locs cells slots Z ls hC hl hP hD hS hZ) (fun q => kf q l D tys ad cA p e R s m args below meth c A H locs cells slots Z ls hC hl hP hD hS hZ)
theorem g_if_ge {L : sLy} {mi : sMI} {d : Nat} {Q : Option sAV → sM → Prop} {pc : Nat} {al : List (Option sAV)} {st : List sAV} {μ : sM} {x : Int32} {off : Int} (tgt : Nat) (hd : decode mi.2.1 pc = .ok (.ifCond .ge off, 3)) (ht : (pc : Int) + off = (tgt : Int)) (kt : 0 ≤ x → sG L mi d Q tgt al st μ) (kf : ¬ 0 ≤ x → sG L mi d Q (pc + 3) al st μ) : sG L mi d Q pc al (sI x :: st) μ := by
  intro l D tys ad cA p e R s m args below meth c A H locs cells slots Z ls hC hl hP hD hS hZ
  exact lv_if_ge hC.1 hC.2.1 hd ht (fun q => kt q l D tys ad cA p e R s m args below meth c A H locs cells slots Z ls hC hl hP hD hS hZ) (fun q => kf q l D tys ad cA p e R s m args below meth c A H locs cells slots Z ls hC hl hP hD hS hZ)
theorem g_icmp_ge {L : sLy} {mi : sMI} {d : Nat} {Q : Option sAV → sM → Prop} {pc : Nat} {al : List (Option sAV)} {st : List sAV} {μ : sM} {x y : Int32} {off : Int} (tgt : Nat) (hd : decode mi.2.1 pc = .ok (.if_icmp .ge off, 3)) (ht : (pc : Int) + off = (tgt : Int)) (kt : y ≤ x → sG L mi d Q tgt al st μ) (kf : ¬ y ≤ x → sG L mi d Q (pc + 3) al st μ) : sG L mi d Q pc al (sI y :: sI x :: st) μ := by
  intro l D tys ad cA p e R s m args below meth c A H locs cells slots Z ls hC hl hP hD hS hZ
  exact lv_icmp_ge hC.1 hC.2.1 hd ht (fun q => kt q l D tys ad cA p e R s m args below meth c A H locs cells slots Z ls hC hl hP hD hS hZ) (fun q => kf q l D tys ad cA p e R s m args below meth c A H locs cells slots Z ls hC hl hP hD hS hZ)
theorem g_if_gt {L : sLy} {mi : sMI} {d : Nat} {Q : Option sAV → sM → Prop} {pc : Nat} {al : List (Option sAV)} {st : List sAV} {μ : sM} {x : Int32} {off : Int} (tgt : Nat) (hd : decode mi.2.1 pc = .ok (.ifCond .gt off, 3)) (ht : (pc : Int) + off = (tgt : Int)) (kt : 0 < x → sG L mi d Q tgt al st μ) (kf : ¬ 0 < x → sG L mi d Q (pc + 3) al st μ) : sG L mi d Q pc al (sI x :: st) μ := by
  intro l D tys ad cA p e R s m args below meth c A H locs cells slots Z ls hC hl hP hD hS hZ
  exact lv_if_gt hC.1 hC.2.1 hd ht (fun q => kt q l D tys ad cA p e R s m args below meth c A H locs cells slots Z ls hC hl hP hD hS hZ) (fun q => kf q l D tys ad cA p e R s m args below meth c A H locs cells slots Z ls hC hl hP hD hS hZ)
theorem g_icmp_gt {L : sLy} {mi : sMI} {d : Nat} {Q : Option sAV → sM → Prop} {pc : Nat} {al : List (Option sAV)} {st : List sAV} {μ : sM} {x y : Int32} {off : Int} (tgt : Nat) (hd : decode mi.2.1 pc = .ok (.if_icmp .gt off, 3)) (ht : (pc : Int) + off = (tgt : Int)) (kt : y < x → sG L mi d Q tgt al st μ) (kf : ¬ y < x → sG L mi d Q (pc + 3) al st μ) : sG L mi d Q pc al (sI y :: sI x :: st) μ := by
  intro l D tys ad cA p e R s m args below meth c A H locs cells slots Z ls hC hl hP hD hS hZ
  exact lv_icmp_gt hC.1 hC.2.1 hd ht (fun q => kt q l D tys ad cA p e R s m args below meth c A H locs cells slots Z ls hC hl hP hD hS hZ) (fun q => kf q l D tys ad cA p e R s m args below meth c A H locs cells slots Z ls hC hl hP hD hS hZ)
theorem g_if_le {L : sLy} {mi : sMI} {d : Nat} {Q : Option sAV → sM → Prop} {pc : Nat} {al : List (Option sAV)} {st : List sAV} {μ : sM} {x : Int32} {off : Int} (tgt : Nat) (hd : decode mi.2.1 pc = .ok (.ifCond .le off, 3)) (ht : (pc : Int) + off = (tgt : Int)) (kt : x ≤ 0 → sG L mi d Q tgt al st μ) (kf : ¬ x ≤ 0 → sG L mi d Q (pc + 3) al st μ) : sG L mi d Q pc al (sI x :: st) μ := by
  intro l D tys ad cA p e R s m args below meth c A H locs cells slots Z ls hC hl hP hD hS hZ
  exact lv_if_le hC.1 hC.2.1 hd ht (fun q => kt q l D tys ad cA p e R s m args below meth c A H locs cells slots Z ls hC hl hP hD hS hZ) (fun q => kf q l D tys ad cA p e R s m args below meth c A H locs cells slots Z ls hC hl hP hD hS hZ)
theorem g_icmp_le {L : sLy} {mi : sMI} {d : Nat} {Q : Option sAV → sM → Prop} {pc : Nat} {al : List (Option sAV)} {st : List sAV} {μ : sM} {x y : Int32} {off : Int} (tgt : Nat) (hd : decode mi.2.1 pc = .ok (.if_icmp .le off, 3)) (ht : (pc : Int) + off = (tgt : Int)) (kt : x ≤ y → sG L mi d Q tgt al st μ) (kf : ¬ x ≤ y → sG L mi d Q (pc + 3) al st μ) : sG L mi d Q pc al (sI y :: sI x :: st) μ := by
  intro l D tys ad cA p e R s m args below meth c A H locs cells slots Z ls hC hl hP hD hS hZ
  exact lv_icmp_le hC.1 hC.2.1 hd ht (fun q => kt q l D tys ad cA p e R s m args below meth c A H locs cells slots Z ls hC hl hP hD hS hZ) (fun q => kf q l D tys ad cA p e R s m args below meth c A H locs cells slots Z ls hC hl hP hD hS hZ)
theorem g_goto {L : sLy} {mi : sMI} {d : Nat} {Q : Option sAV → sM → Prop} {pc : Nat} {al : List (Option sAV)} {st : List sAV} {μ : sM} {off : Int} (tgt : Nat) (hd : decode mi.2.1 pc = .ok (.goto off, 3)) (ht : (pc : Int) + off = (tgt : Int)) (k : sG L mi d Q tgt al st μ) : sG L mi d Q pc al st μ := by
  intro l D tys ad cA p e R s m args below meth c A H locs cells slots Z ls hC hl hP hD hS hZ
  exact lv_goto hC.1 hC.2.1 hd ht (k l D tys ad cA p e R s m args below meth c A H locs cells slots Z ls hC hl hP hD hS hZ)
theorem g_tin {L : sLy} {mi : sMI} {d : Nat} {Q : Option sAV → sM → Prop} {pc : Nat} {al : List (Option sAV)} {st : List sAV} {μ : sM} {dflt lo hi off : Int} {offs : Array Int} {len : Nat} {x : Int32} (tgt j : Nat) (hd : decode mi.2.1 pc = .ok (.tableswitch dflt lo hi offs, len)) (hx : x.toInt = lo + j) (hh : lo + j ≤ hi) (ho : offs[j]? = some off) (ht : (pc : Int) + off = (tgt : Int)) (k : sG L mi d Q tgt al st μ) : sG L mi d Q pc al (sI x :: st) μ := by
  intro l D tys ad cA p e R s m args below meth c A H locs cells slots Z ls hC hl hP hD hS hZ
  exact lv_tableIn hC.1 hC.2.1 hd (by omega) (by omega) (by rw [hx, show (lo + (j : Int) - lo).toNat = j by omega]; exact ho) ht (k l D tys ad cA p e R s m args below meth c A H locs cells slots Z ls hC hl hP hD hS hZ)
theorem g_tout {L : sLy} {mi : sMI} {d : Nat} {Q : Option sAV → sM → Prop} {pc : Nat} {al : List (Option sAV)} {st : List sAV} {μ : sM} {dflt lo hi : Int} {offs : Array Int} {len : Nat} {x : Int32} (tgt : Nat) (hd : decode mi.2.1 pc = .ok (.tableswitch dflt lo hi offs, len)) (h : x.toInt < lo ∨ hi < x.toInt) (ht : (pc : Int) + dflt = (tgt : Int)) (k : sG L mi d Q tgt al st μ) : sG L mi d Q pc al (sI x :: st) μ := by
  intro l D tys ad cA p e R s m args below meth c A H locs cells slots Z ls hC hl hP hD hS hZ
  exact lv_tableOut hC.1 hC.2.1 hd h ht (k l D tys ad cA p e R s m args below meth c A H locs cells slots Z ls hC hl hP hD hS hZ)
theorem g_get {L : sLy} {mi : sMI} {d : Nat} {Q : Option sAV → sM → Prop} {pc : Nat} {al : List (Option sAV)} {st : List sAV} {μ : sM} {r idx ci k code : Nat} {fl : List Nat} {ty : FieldType} {fin : Bool} {w : sAV} (hd : decode mi.2.1 pc = .ok (.getfield idx, 3)) (hf : s_FL mi.1.cls idx ci k ty fin) (hr : L.1[r]? = some (sO_ ci fl)) (hk : fl[k]? = some code) (hw : ∀ ad, s_fv ad μ r k code = s_av ad w) (k : sG L mi d Q (pc + 3) al (w :: st) μ) : sG L mi d Q pc al (sR r :: st) μ := by
  intro l D tys ad cA p e R s m args below meth c A H locs cells slots Z ls hC hl hP hD hS hZ
  obtain ⟨C, T, N, ⟨c1, c2, c3, c4⟩, h1, h2, h3, h4, h5⟩ := hf
  have he : (s_W L.1 ad cA μ)[r]? = some (ad r, .inr (ci, fl.mapIdx (s_fv ad μ r))) := by rw [s_W_get hr, s_E_obj hr]
  have hv := s_fs_get (ad := ad) (μ := μ) (r := r) hk
  rw [hw ad] at hv
  rcases h5 with h5 | ⟨host, h5⟩
  · exact va_get hC.1 hC.2.1 hC.2.2.2.2.1 c2 hC.2.2.2.1 hC.2.2.2.2.2.2.1 hP r he c1 _ h1 (hC.2.2.2.2.1 _ h5) (fun x q => by rw [h2] at q; exact q) hv hd (k l D tys ad cA p e R s m args below meth c A H locs cells slots Z ls hC hl hP hD hS hZ)
  · exact va_getN hC.1 hC.2.1 hC.2.2.2.2.1 c2 hC.2.2.2.1 hC.2.2.2.2.2.2.1 hP r he c1 _ h1 (va_Nw.use rfl (hC.2.2.2.2.2.1 _ h5)) (fun x q => by rw [h2] at q; exact q) hv hd (k l D tys ad cA p e R s m args below meth c A H locs cells slots Z ls hC hl hP hD hS hZ)
theorem g_geti {L : sLy} {mi : sMI} {d : Nat} {Q : Option sAV → sM → Prop} {pc : Nat} {al : List (Option sAV)} {st : List sAV} {μ : sM} {r idx ci k : Nat} {fl : List Nat} {ty : FieldType} {fin : Bool} (hd : decode mi.2.1 pc = .ok (.getfield idx, 3)) (hf : s_FL mi.1.cls idx ci k ty fin) (hr : L.1[r]? = some (sO_ ci fl)) (hk : fl[k]? = some 0) (kk : sG L mi d Q (pc + 3) al (sI (μ.1 r k) :: st) μ) : sG L mi d Q pc al (sR r :: st) μ := g_get hd hf hr hk (fun _ => rfl) kk
theorem g_getl {L : sLy} {mi : sMI} {d : Nat} {Q : Option sAV → sM → Prop} {pc : Nat} {al : List (Option sAV)} {st : List sAV} {μ : sM} {r idx ci k : Nat} {fl : List Nat} {ty : FieldType} {fin : Bool} (hd : decode mi.2.1 pc = .ok (.getfield idx, 3)) (hf : s_FL mi.1.cls idx ci k ty fin) (hr : L.1[r]? = some (sO_ ci fl)) (hk : fl[k]? = some 1) (kk : sG L mi d Q (pc + 3) al (sL (μ.2 r k) :: st) μ) : sG L mi d Q pc al (sR r :: st) μ := g_get hd hf hr hk (fun _ => rfl) kk
theorem g_getr {L : sLy} {mi : sMI} {d : Nat} {Q : Option sAV → sM → Prop} {pc : Nat} {al : List (Option sAV)} {st : List sAV} {μ : sM} {r idx ci k r2 : Nat} {fl : List Nat} {ty : FieldType} {fin : Bool} (hd : decode mi.2.1 pc = .ok (.getfield idx, 3)) (hf : s_FL mi.1.cls idx ci k ty fin) (hr : L.1[r]? = some (sO_ ci fl)) (hk : fl[k]? = some (r2 + 2)) (kk : sG L mi d Q (pc + 3) al (sR r2 :: st) μ) : sG L mi d Q pc al (sR r :: st) μ := g_get hd hf hr hk (fun _ => rfl) kk
theorem g_puti {L : sLy} {mi : sMI} {d : Nat} {Q : Option sAV → sM → Prop} {pc : Nat} {al : List (Option sAV)} {st : List sAV} {μ : sM} {r idx ci k : Nat} {fl : List Nat} {ty : FieldType} {v : Int32} (hd : decode mi.2.1 pc = .ok (.putfield idx, 3)) (hf : s_FL mi.1.cls idx ci k ty false) (hr : L.1[r]? = some (sO_ ci fl)) (hk : fl[k]? = some 0) (hn : narrow ty (.int v) = .int v) (hfit : fits ty (.int v) = true) (kk : sG L mi d Q (pc + 3) al st (s_u μ r k v)) : sG L mi d Q pc al (sI v :: sR r :: st) μ := by
  intro l D tys ad cA p e R s m args below meth c A H locs cells slots Z ls hC hl hP hD hS hZ
  obtain ⟨C, T, N, ⟨c1, c2, ⟨ty0, c3⟩, c4⟩, h1, h2, h3, h4, h5⟩ := hf
  have he : (s_W L.1 ad cA μ)[r]? = some (ad r, .inr (ci, fl.mapIdx (s_fv ad μ r))) := by rw [s_W_get hr, s_E_obj hr]
  have e1 : (s_W L.1 ad cA μ).set r (ad r, .inr (ci, (fl.mapIdx (s_fv ad μ r)).set k (.int v))) = s_W L.1 ad cA (s_u μ r k v) := by
    rw [s_fs_set hk, ← s_E_obj (lay := L.1) (cA := cA) hr]
    exact s_W_set (fun j hj => s_E_u hj)
  have hlen : k < (fl.mapIdx (s_fv ad μ r)).length := by rw [List.length_mapIdx]; exact (List.getElem?_eq_some_iff.mp hk).1
  rcases h5 with h5 | ⟨host, h5⟩
  · exact va_put (v := .int v) hC.1 hC.2.1 hC.2.2.2.2.1 c2 ty0 c3 c4 hC.2.2.2.1 hC.2.2.2.2.2.2.1 hP hD hS r he c1 k h1 (hC.2.2.2.2.1 _ h5) (fun x q => by rw [h2] at q; exact q) h3 h4 hn hfit hlen hd (fun H locs hP hD hS => by rw [e1] at hP hD; exact kk l D tys ad cA p e R s m args below meth c A H locs cells slots Z ls hC hl hP hD hS hZ)
  · exact va_putN (v := .int v) hC.1 hC.2.1 hC.2.2.2.2.1 c2 ty0 c3 c4 hC.2.2.2.1 hC.2.2.2.2.2.2.1 hP hD hS r he c1 k h1 (va_Nw.use rfl (hC.2.2.2.2.2.1 _ h5)) (fun x q => by rw [h2] at q; exact q) h3 h4 hn hfit hlen hd (fun H locs hP hD hS => by rw [e1] at hP hD; exact kk l D tys ad cA p e R s m args below meth c A H locs cells slots Z ls hC hl hP hD hS hZ)
theorem g_putl {L : sLy} {mi : sMI} {d : Nat} {Q : Option sAV → sM → Prop} {pc : Nat} {al : List (Option sAV)} {st : List sAV} {μ : sM} {r idx ci k : Nat} {fl : List Nat} {ty : FieldType} {v : Int64} (hd : decode mi.2.1 pc = .ok (.putfield idx, 3)) (hf : s_FL mi.1.cls idx ci k ty false) (hr : L.1[r]? = some (sO_ ci fl)) (hk : fl[k]? = some 1) (hn : narrow ty (.long v) = .long v) (hfit : fits ty (.long v) = true) (kk : sG L mi d Q (pc + 3) al st (s_ul μ r k v)) : sG L mi d Q pc al (sL v :: sR r :: st) μ := by
  intro l D tys ad cA p e R s m args below meth c A H locs cells slots Z ls hC hl hP hD hS hZ
  obtain ⟨C, T, N, ⟨c1, c2, ⟨ty0, c3⟩, c4⟩, h1, h2, h3, h4, h5⟩ := hf
  have he : (s_W L.1 ad cA μ)[r]? = some (ad r, .inr (ci, fl.mapIdx (s_fv ad μ r))) := by rw [s_W_get hr, s_E_obj hr]
  have e1 : (s_W L.1 ad cA μ).set r (ad r, .inr (ci, (fl.mapIdx (s_fv ad μ r)).set k (.long v))) = s_W L.1 ad cA (s_ul μ r k v) := by
    rw [s_fs_setl hk, ← s_E_obj (lay := L.1) (cA := cA) hr]
    exact s_W_set (fun j hj => s_E_ul hj)
  have hlen : k < (fl.mapIdx (s_fv ad μ r)).length := by rw [List.length_mapIdx]; exact (List.getElem?_eq_some_iff.mp hk).1
  rcases h5 with h5 | ⟨host, h5⟩
  · exact va_put (v := .long v) hC.1 hC.2.1 hC.2.2.2.2.1 c2 ty0 c3 c4 hC.2.2.2.1 hC.2.2.2.2.2.2.1 hP hD hS r he c1 k h1 (hC.2.2.2.2.1 _ h5) (fun x q => by rw [h2] at q; exact q) h3 h4 hn hfit hlen hd (fun H locs hP hD hS => by rw [e1] at hP hD; exact kk l D tys ad cA p e R s m args below meth c A H locs cells slots Z ls hC hl hP hD hS hZ)
  · exact va_putN (v := .long v) hC.1 hC.2.1 hC.2.2.2.2.1 c2 ty0 c3 c4 hC.2.2.2.1 hC.2.2.2.2.2.2.1 hP hD hS r he c1 k h1 (va_Nw.use rfl (hC.2.2.2.2.2.1 _ h5)) (fun x q => by rw [h2] at q; exact q) h3 h4 hn hfit hlen hd (fun H locs hP hD hS => by rw [e1] at hP hD; exact kk l D tys ad cA p e R s m args below meth c A H locs cells slots Z ls hC hl hP hD hS hZ)
theorem g_iald {L : sLy} {mi : sMI} {d : Nat} {Q : Option sAV → sM → Prop} {pc : Nat} {al : List (Option sAV)} {st : List sAV} {μ : sM} {r n : Nat} {i : Int32} (hd : decode mi.2.1 pc = .ok (.iaload, 1)) (hr : L.1[r]? = some (sA_ n)) (ht : L.2 r = .int) (hi : vp_in i n) (k : sG L mi d Q (pc + 1) al (sI (μ.1 r i.toNatClampNeg) :: st) μ) : sG L mi d Q pc al (sI i :: sR r :: st) μ := by
  intro l D tys ad cA p e R s m args below meth c A H locs cells slots Z ls hC hl hP hD hS hZ
  have he : (s_W L.1 ad cA μ)[r]? = some (ad r, .inl (cA r, n, .inl (μ.1 r))) := by rw [s_W_get hr, s_E_arr hr]
  obtain ⟨t0, h0⟩ := List.getElem?_of_mem (hC.2.2.2.2.2.2.2.1 r _ hr (Or.inl ⟨n, rfl⟩))
  rw [ht] at h0
  exact va_iald hC.1 hC.2.1 hC.2.2.2.2.2.2.1 hP r t0 he h0 hi hd (k l D tys ad cA p e R s m args below meth c A H locs cells slots Z ls hC hl hP hD hS hZ)
theorem g_zald {L : sLy} {mi : sMI} {d : Nat} {Q : Option sAV → sM → Prop} {pc : Nat} {al : List (Option sAV)} {st : List sAV} {μ : sM} {r n : Nat} {i : Int32} (hd : decode mi.2.1 pc = .ok (.baload, 1)) (hr : L.1[r]? = some (sA_ n)) (ht : L.2 r = .boolean) (hi : vp_in i n) (k : sG L mi d Q (pc + 1) al (sI (μ.1 r i.toNatClampNeg) :: st) μ) : sG L mi d Q pc al (sI i :: sR r :: st) μ := by
  intro l D tys ad cA p e R s m args below meth c A H locs cells slots Z ls hC hl hP hD hS hZ
  have he : (s_W L.1 ad cA μ)[r]? = some (ad r, .inl (cA r, n, .inl (μ.1 r))) := by rw [s_W_get hr, s_E_arr hr]
  obtain ⟨t0, h0⟩ := List.getElem?_of_mem (hC.2.2.2.2.2.2.2.1 r _ hr (Or.inl ⟨n, rfl⟩))
  rw [ht] at h0
  exact va_zald hC.1 hC.2.1 hC.2.2.2.2.2.2.1 hP r t0 he h0 hi hd (k l D tys ad cA p e R s m args below meth c A H locs cells slots Z ls hC hl hP hD hS hZ)
theorem g_iast {L : sLy} {mi : sMI} {d : Nat} {Q : Option sAV → sM → Prop} {pc : Nat} {al : List (Option sAV)} {st : List sAV} {μ : sM} {r n : Nat} {i x : Int32} (hd : decode mi.2.1 pc = .ok (.iastore, 1)) (hr : L.1[r]? = some (sA_ n)) (ht : L.2 r = .int) (hi : vp_in i n) (k : sG L mi d Q (pc + 1) al st (s_u μ r i.toNatClampNeg x)) : sG L mi d Q pc al (sI x :: sI i :: sR r :: st) μ := by
  intro l D tys ad cA p e R s m args below meth c A H locs cells slots Z ls hC hl hP hD hS hZ
  have he : (s_W L.1 ad cA μ)[r]? = some (ad r, .inl (cA r, n, .inl (μ.1 r))) := by rw [s_W_get hr, s_E_arr hr]
  obtain ⟨t0, h0⟩ := List.getElem?_of_mem (hC.2.2.2.2.2.2.2.1 r _ hr (Or.inl ⟨n, rfl⟩))
  rw [ht] at h0
  have e0 : (s_u μ r i.toNatClampNeg x).1 r = upd (μ.1 r) i.toNatClampNeg x := by simp [s_u, va_up]
  have e1 : (s_W L.1 ad cA μ).set r (ad r, .inl (cA r, n, .inl (upd (μ.1 r) i.toNatClampNeg x))) = s_W L.1 ad cA (s_u μ r i.toNatClampNeg x) := by
    rw [← e0, ← s_E_arr (lay := L.1) (ad := ad) (cA := cA) hr]
    exact s_W_set (fun j hj => s_E_u hj)
  exact va_iast hC.1 hC.2.1 hC.2.2.2.2.2.2.1 hP hD hS r t0 he h0 hi hd (fun H locs hP hD hS => by rw [e1] at hP hD; exact k l D tys ad cA p e R s m args below meth c A H locs cells slots Z ls hC hl hP hD hS hZ)
theorem g_zast {L : sLy} {mi : sMI} {d : Nat} {Q : Option sAV → sM → Prop} {pc : Nat} {al : List (Option sAV)} {st : List sAV} {μ : sM} {r n : Nat} {i x : Int32} (hd : decode mi.2.1 pc = .ok (.bastore, 1)) (hr : L.1[r]? = some (sA_ n)) (ht : L.2 r = .boolean) (hi : vp_in i n) (k : sG L mi d Q (pc + 1) al st (s_u μ r i.toNatClampNeg (vp_nar .boolean x))) : sG L mi d Q pc al (sI x :: sI i :: sR r :: st) μ := by
  intro l D tys ad cA p e R s m args below meth c A H locs cells slots Z ls hC hl hP hD hS hZ
  have he : (s_W L.1 ad cA μ)[r]? = some (ad r, .inl (cA r, n, .inl (μ.1 r))) := by rw [s_W_get hr, s_E_arr hr]
  obtain ⟨t0, h0⟩ := List.getElem?_of_mem (hC.2.2.2.2.2.2.2.1 r _ hr (Or.inl ⟨n, rfl⟩))
  rw [ht] at h0
  have e0 : (s_u μ r i.toNatClampNeg (vp_nar .boolean x)).1 r = upd (μ.1 r) i.toNatClampNeg (vp_nar .boolean x) := by simp [s_u, va_up]
  have e1 : (s_W L.1 ad cA μ).set r (ad r, .inl (cA r, n, .inl (upd (μ.1 r) i.toNatClampNeg (vp_nar .boolean x)))) = s_W L.1 ad cA (s_u μ r i.toNatClampNeg (vp_nar .boolean x)) := by
    rw [← e0, ← s_E_arr (lay := L.1) (ad := ad) (cA := cA) hr]
    exact s_W_set (fun j hj => s_E_u hj)
  exact va_zast hC.1 hC.2.1 hC.2.2.2.2.2.2.1 hP hD hS r t0 he h0 hi hd (fun H locs hP hD hS => by rw [e1] at hP hD; exact k l D tys ad cA p e R s m args below meth c A H locs cells slots Z ls hC hl hP hD hS hZ)
theorem g_alen {L : sLy} {mi : sMI} {d : Nat} {Q : Option sAV → sM → Prop} {pc : Nat} {al : List (Option sAV)} {st : List sAV} {μ : sM} {r n : Nat} (hd : decode mi.2.1 pc = .ok (.arraylength, 1)) (hr : L.1[r]? = some (sA_ n)) (k : sG L mi d Q (pc + 1) al (sI (Int32.ofNat n) :: st) μ) : sG L mi d Q pc al (sR r :: st) μ := by
  intro l D tys ad cA p e R s m args below meth c A H locs cells slots Z ls hC hl hP hD hS hZ
  have he : (s_W L.1 ad cA μ)[r]? = some (ad r, .inl (cA r, n, .inl (μ.1 r))) := by rw [s_W_get hr, s_E_arr hr]
  obtain ⟨t0, h0⟩ := List.getElem?_of_mem (hC.2.2.2.2.2.2.2.1 r _ hr (Or.inl ⟨n, rfl⟩))
  exact va_alen hC.1 hC.2.1 hC.2.2.2.2.2.2.1 hP r t0 he h0 rfl hd (k l D tys ad cA p e R s m args below meth c A H locs cells slots Z ls hC hl hP hD hS hZ)
theorem g_aald {L : sLy} {mi : sMI} {d : Nat} {Q : Option sAV → sM → Prop} {pc : Nat} {al : List (Option sAV)} {st : List sAV} {μ : sM} {r n b : Nat} {i : Int32} (hd : decode mi.2.1 pc = .ok (.aaload, 1)) (hr : L.1[r]? = some (sQ_ n b)) (ht : (L.2 r).isReference = true) (hi : vp_in i n) (k : sG L mi d Q (pc + 1) al (sR (b + i.toNatClampNeg) :: st) μ) : sG L mi d Q pc al (sI i :: sR r :: st) μ := by
  intro l D tys ad cA p e R s m args below meth c A H locs cells slots Z ls hC hl hP hD hS hZ
  have he : (s_W L.1 ad cA μ)[r]? = some (ad r, .inl (cA r, n, .inr (.inr (.inr (.inr (fun i => if i < n then some (ad (b + i)) else none)))))) := by rw [s_W_get hr, s_E_rfs hr]
  obtain ⟨t0, h0⟩ := List.getElem?_of_mem (hC.2.2.2.2.2.2.2.1 r _ hr (Or.inr ⟨n, b, rfl⟩))
  have hlt : i.toNatClampNeg < n := Nat.not_le.mp fun q => hi (Or.inr q)
  refine W.aald (v := s_av ad (sR (b + i.toNatClampNeg))) (ty := L.2 r) hC.1 hC.2.1 (hP r _ he) ((hC.2.2.2.2.2.2.1.2 t0 _ h0).1 n (fun j => va_rf (if j < n then some (ad (b + j)) else none))) ht (fun q => by cases q) (by show ¬ (i < 0 ∨ (arrV _ _ _).slots.size ≤ _); rw [arrV_size]; exact hi) (by show (arrV _ _ _).slots[_]? = _; rw [arrV_read _ _ hlt]; show some (va_rf (if i.toNatClampNeg < n then some (ad (b + i.toNatClampNeg)) else none)) = _; rw [if_pos hlt]; rfl) rfl rfl hd ?_
  exact k l D tys ad cA p e R s m args below meth c A H locs cells slots Z ls hC hl hP hD hS hZ
theorem s_nfw : nativeFrameWords "java/lang/System" "arraycopy" 5 = 7 := by decide +kernel
theorem g_copy {L : sLy} {mi : sMI} {d : Nat} {Q : Option sAV → sM → Prop} {pc : Nat} {al : List (Option sAV)} {st : List sAV} {μ : sM} {r0 r1 n0 n1 idx : Nat} {sp dp n : Int32} (hd : decode mi.2.1 pc = .ok (.invokestatic idx, 3)) (hlk : Cond.methodLink mi.1.cls idx arraycopyName ∈ sT) (hr0 : L.1[r0]? = some (sA_ n0)) (hr1 : L.1[r1]? = some (sA_ n1)) (ht0 : L.2 r0 = .int) (ht1 : L.2 r1 = .int) (h1 : ¬ sp < 0) (h2 : ¬ dp < 0) (h3 : ¬ n < 0) (h4 : sp.toNatClampNeg + n.toNatClampNeg ≤ n0) (h5 : dp.toNatClampNeg + n.toNatClampNeg ≤ n1) (hst : st = [])
    (k : sG L mi (d + 1) Q (pc + 3) al st (va_up μ.1 r1 (va_cpy (μ.1 r0) (μ.1 r1) sp.toNatClampNeg dp.toNatClampNeg n.toNatClampNeg), μ.2)) : sG L mi (d + 1) Q pc al (sI n :: sI dp :: sR r1 :: sI sp :: sR r0 :: st) μ := by
  intro l D tys ad cA p e R s m args below meth c A H locs cells slots Z ls hC hl hP hD hS hZ
  subst hst
  have he0 : (s_W L.1 ad cA μ)[r0]? = some (ad r0, .inl (cA r0, n0, .inl (μ.1 r0))) := by rw [s_W_get hr0, s_E_arr hr0]
  have he1 : (s_W L.1 ad cA μ)[r1]? = some (ad r1, .inl (cA r1, n1, .inl (μ.1 r1))) := by rw [s_W_get hr1, s_E_arr hr1]
  obtain ⟨t0, g0⟩ := List.getElem?_of_mem (hC.2.2.2.2.2.2.2.1 r0 _ hr0 (Or.inl ⟨n0, rfl⟩))
  obtain ⟨t1, g1⟩ := List.getElem?_of_mem (hC.2.2.2.2.2.2.2.1 r1 _ hr1 (Or.inl ⟨n1, rfl⟩))
  rw [ht0] at g0
  rw [ht1] at g1
  generalize hM : ((va_up μ.1 r1 (va_cpy (μ.1 r0) (μ.1 r1) sp.toNatClampNeg dp.toNatClampNeg n.toNatClampNeg), μ.2) : sM) = M at k
  have e0 : M.1 r1 = va_cpy (μ.1 r0) (μ.1 r1) sp.toNatClampNeg dp.toNatClampNeg n.toNatClampNeg := by rw [← hM]; simp [va_up]
  have e9 : ∀ j, j ≠ r1 → s_E L.1 ad cA M j = s_E L.1 ad cA μ j := fun j hj => by
    have q1 : M.1 j = μ.1 j := by rw [← hM]; simp [va_up, hj]
    have q2 : M.2 = μ.2 := by rw [← hM]
    have q3 : s_fv ad M j = s_fv ad μ j := by
      funext k q
      unfold s_fv
      rw [q1, q2]
    unfold s_E
    rw [q1, q3]
  have e1 : (s_W L.1 ad cA μ).set r1 (ad r1, .inl (cA r1, n1, .inl (va_cpy (μ.1 r0) (μ.1 r1) sp.toNatClampNeg dp.toNatClampNeg n.toNatClampNeg))) = s_W L.1 ad cA M := by
    rw [← e0, ← s_E_arr (lay := L.1) (ad := ad) (cA := cA) hr1]
    exact s_W_set e9
  obtain ⟨q1, q2, q3, q4⟩ := hC.2.2.2.2.2.2.2.2.1
  exact va_copyi hC.1 hC.2.1 (hC.2.2.1.trans hl.1.symm) hC.2.2.2.1 (hC.2.2.2.2.1 _ hlk) (hC.2.2.2.2.1 _ s_acn) (hC.2.2.2.2.1 _ s_acs) (hC.2.2.2.2.1 _ s_aci) hC.2.2.2.2.2.2.1 hP hD hS r0 r1 t0 t1 he0 he1 g0 g1 rfl h1 h2 h3 h4 h5 (fun _ _ => rfl) (by omega) (by rw [s_nfw]; show 0 + (7 + 11) ≤ _; omega) hd (fun H locs hP hD hS => by rw [e1] at hP hD; exact k l D tys ad cA p e R s m args below meth c A H locs cells slots Z ls hC hl hP hD hS hZ)
def s_cat (v : sAV) : Nat := match v with
  | .inr (.inl _) => 2
  | _ => 1
theorem s_cat_av (ad : Nat → Nat) (v : sAV) : (s_av ad v).category = s_cat v := by
  match v with
  | .inl x => rfl
  | .inr (.inl x) => rfl
  | .inr (.inr x) => rfl
theorem s_catsum (ad : Nat → Nat) : ∀ st : List sAV, ((st.map (s_av ad)).map fun v => v.category).sum ≤ 2 * st.length
  | [] => Nat.le_refl _
  | v :: t => by
    have h := s_catsum ad t
    have h2 : (s_av ad v).category ≤ 2 := by
      match v with
      | .inl x => exact Nat.le_of_ble_eq_true rfl
      | .inr (.inl x) => exact Nat.le_of_ble_eq_true rfl
      | .inr (.inr x) => exact Nat.le_of_ble_eq_true rfl
    simp only [List.map_cons, List.sum_cons, List.length_cons]
    omega
theorem s_catsum_eq (ad : Nat → Nat) (st : List sAV) : ((st.map (s_av ad)).map fun v => v.category).sum = (st.map s_cat).sum := by
  rw [List.map_map]
  congr 1
  apply List.map_congr_left
  intro v _
  exact s_cat_av ad v
theorem g_mmax {L : sLy} {mi : sMI} {d : Nat} {Q : Option sAV → sM → Prop} {pc : Nat} {al : List (Option sAV)} {st : List sAV} {μ : sM} {idx : Nat} {x y : Int32} (hd : decode mi.2.1 pc = .ok (.invokestatic idx, 3)) (hlk : Cond.methodLink mi.1.cls idx Lib.Math.max.name ∈ sT) (hst : st.length ≤ 8) (k : sG L mi (d + 1) Q (pc + 3) al (sI (if x < y then y else x) :: st) μ) : sG L mi (d + 1) Q pc al (sI y :: sI x :: st) μ := by
  intro l D tys ad cA p e R s m args below meth c A H locs cells slots Z ls hC hl hP hD hS hZ
  obtain ⟨q1, q2, q3, q4⟩ := hC.2.2.2.2.2.2.2.2.1
  have hcs := s_catsum ad st
  exact va_mmax hC.1 hC.2.1 (hC.2.2.1.trans hl.1.symm) hC.2.2.2.1 (hC.2.2.2.2.1 _ hlk) (hC.2.2.2.2.1 _ s_mmax.1) (hC.2.2.2.2.1 _ s_mti) (hC.2.2.2.2.1 _ s_mmax.2) (by omega) (by omega) q3 q4 hd (k l D tys ad cA p e R s m args below meth c A H locs cells slots Z ls hC hl hP hD hS hZ)
theorem g_mmin {L : sLy} {mi : sMI} {d : Nat} {Q : Option sAV → sM → Prop} {pc : Nat} {al : List (Option sAV)} {st : List sAV} {μ : sM} {idx : Nat} {x y : Int32} (hd : decode mi.2.1 pc = .ok (.invokestatic idx, 3)) (hlk : Cond.methodLink mi.1.cls idx Lib.Math.min.name ∈ sT) (hst : st.length ≤ 8) (k : sG L mi (d + 1) Q (pc + 3) al (sI (if y < x then y else x) :: st) μ) : sG L mi (d + 1) Q pc al (sI y :: sI x :: st) μ := by
  intro l D tys ad cA p e R s m args below meth c A H locs cells slots Z ls hC hl hP hD hS hZ
  obtain ⟨q1, q2, q3, q4⟩ := hC.2.2.2.2.2.2.2.2.1
  have hcs := s_catsum ad st
  exact va_mmin hC.1 hC.2.1 (hC.2.2.1.trans hl.1.symm) hC.2.2.2.1 (hC.2.2.2.2.1 _ hlk) (hC.2.2.2.2.1 _ s_mmin.1) (hC.2.2.2.2.1 _ s_mti) (hC.2.2.2.2.1 _ s_mmin.2) (by omega) (by omega) q3 q4 hd (k l D tys ad cA p e R s m args below meth c A H locs cells slots Z ls hC hl hP hD hS hZ)
theorem g_mabs {L : sLy} {mi : sMI} {d : Nat} {Q : Option sAV → sM → Prop} {pc : Nat} {al : List (Option sAV)} {st : List sAV} {μ : sM} {idx : Nat} {x : Int32} (hd : decode mi.2.1 pc = .ok (.invokestatic idx, 3)) (hlk : Cond.methodLink mi.1.cls idx Lib.Math.abs.name ∈ sT) (hst : st.length ≤ 8) (k : sG L mi (d + 1) Q (pc + 3) al (sI (if 0 ≤ x then x else 0 - x) :: st) μ) : sG L mi (d + 1) Q pc al (sI x :: st) μ := by
  intro l D tys ad cA p e R s m args below meth c A H locs cells slots Z ls hC hl hP hD hS hZ
  obtain ⟨q1, q2, q3, q4⟩ := hC.2.2.2.2.2.2.2.2.1
  have hcs := s_catsum ad st
  exact va_mabs hC.1 hC.2.1 (hC.2.2.1.trans hl.1.symm) hC.2.2.2.1 (hC.2.2.2.2.1 _ hlk) (hC.2.2.2.2.1 _ s_mabs.1) (hC.2.2.2.2.1 _ s_mti) (hC.2.2.2.2.1 _ s_mabs.2) (by omega) (by omega) q3 q4 hd (k l D tys ad cA p e R s m args below meth c A H locs cells slots Z ls hC hl hP hD hS hZ)
theorem g_iret {L : sLy} {mi : sMI} {d : Nat} {Q : Option sAV → sM → Prop} {pc : Nat} {al : List (Option sAV)} {μ : sM} {x : Int32} {ty : FieldType} (hd : decode mi.2.1 pc = .ok (.ireturn, 1)) (hr : mi.2.2.2 = some ty) (hn : narrow ty (.int x) = .int x) (k : Q (some (sI x)) μ) : sG L mi d Q pc al [sI x] μ := by
  intro l D tys ad cA p e R s m args below meth c A H locs cells slots Z ls hC hl hP hD hS hZ
  exact hZ (some (sI x)) μ H locs ls pc k hP hD hS ⟨hd, ty, hr, hn⟩
theorem g_lret {L : sLy} {mi : sMI} {d : Nat} {Q : Option sAV → sM → Prop} {pc : Nat} {al : List (Option sAV)} {μ : sM} {x : Int64} (hd : decode mi.2.1 pc = .ok (.lreturn, 1)) (hr : mi.2.2.2 = some .long) (k : Q (some (sL x)) μ) : sG L mi d Q pc al [sL x] μ := by
  intro l D tys ad cA p e R s m args below meth c A H locs cells slots Z ls hC hl hP hD hS hZ
  exact hZ (some (sL x)) μ H locs ls pc k hP hD hS ⟨hd, hr⟩
theorem g_vret {L : sLy} {mi : sMI} {d : Nat} {Q : Option sAV → sM → Prop} {pc : Nat} {al : List (Option sAV)} {μ : sM} (hd : decode mi.2.1 pc = .ok (.return_, 1)) (hr : mi.2.2.2 = none) (k : Q none μ) : sG L mi d Q pc al [] μ := by
  intro l D tys ad cA p e R s m args below meth c A H locs cells slots Z ls hC hl hP hD hS hZ
  exact hZ none μ H locs ls pc k hP hD hS ⟨hd, hr⟩
end
section
-- CALLS (printed by wip/whole/gen_calls.py)
theorem s_goodc {mi : sMI} {n : Nat} (hF : s_MF mi n) : GoodIn sT (Cond.code mi.1 mi.2.1 mi.2.2.1 mi.2.2.2 :: sT) := fun w hw => (List.mem_cons.mp hw).elim (fun e => by rw [e]; exact sT_good _ hF.1) (fun h => sT_good w h)
theorem s_free {L : sLy} {D : va_G} {ad : Nat → Nat} {cA : Nat → ClassId} {μ : sM} {A : Nat → Prop} {s : State} {H : Heap} {locs : List Loc} (hD : va_D A (s_W L.1 ad cA μ)) (hS : va_S A s.heap H locs) (hA : ∀ q, s.heap.size ≤ q → A q) : ∀ q, va_A (s_W L.1 ad cA μ) H.size q → A q := fun q h => by
  rcases h with ⟨k, e, h⟩ | h
  · exact hD.2 k _ h
  · exact hA q (Nat.le_trans hS.1 h)
theorem s_pre {L : sLy} {D : va_G} {tys : List (ClassId × FieldType)} {ad : Nat → Nat} {cA : Nat → ClassId} {as : List sAV} {μ : sM} {A : Nat → Prop} {s : State} {H : Heap} (hP : va_P D vwCl (s_W L.1 ad cA μ) H) (hD : va_D A (s_W L.1 ad cA μ)) (hK : va_K D vwCl tys s) (hN : ∀ w ∈ sTn, va_Nw w s) : ∀ U : State, U.heap = H → s.WarmedH U.vm → s_Pc L D tys ad cA H.size as μ (as.map (s_av ad)).toArray U :=
  fun U hU hW => ⟨rfl, by rw [hU], by rw [hU]; exact hP, va_K.moved hW.alike hK, sTn_warm hW hN, hD.weaken (fun _ _ _ _ => trivial)⟩
theorem s_runV {L : sLy} {mi mi2 : sMI} {n d idx ci r pc : Nat} {as st : List sAV} {al : List (Option sAV)} {μ : sM} {fl : List Nat} {T : u_T} {N : Nat} {l : Launch} {D : va_G} {tys : List (ClassId × FieldType)} {ad : Nat → Nat} {cA : Nat → ClassId} {p : Program} {e : Env} {R : Room} {s : State} {m : MethodId} {args : Array Value} {below : List Frame} {meth : Method} {c : Code} {A : Nat → Prop} {H : Heap} {locs : List Loc} {cells slots : Nat} {ls : Array Slot} {Qc : Array Value → State → Outcome → State → Prop}
    (hC : s_C L mi (d + 1) D tys cA p R s m args c A cells slots) (hl : lv_has ls mi.2.2.1 (s_ll ad 0 al)) (hP : va_P D vwCl (s_W L.1 ad cA μ) H) (hD : va_D A (s_W L.1 ad cA μ))
    (hd : decode mi.2.1 pc = .ok (.invokevirtual idx, 3)) (hlk : s_ML mi.1.cls idx mi2.1) (hF : s_MF mi2 n) (hV : s_MV mi2) (hr : L.1[r]? = some (sO_ ci fl)) (hc : vwCl[ci]? = some (mi2.1.cls, T, N)) (hn : as.length = n) (hst : (st.map s_cat).sum ≤ 8) (hml : mi2.2.2.1 ≤ 41)
    (hM : Met l mi2.1 (Cond.code mi2.1 mi2.2.1 mi2.2.2.1 mi2.2.2.2 :: sT) (s_rm d) (s_Pc L D tys ad cA H.size (sR r :: as) μ) Qc 0 0 (va_A (s_W L.1 ad cA μ) H.size)) :
    va_Run p l e R s m args below meth c H locs cells slots 0 0 (F0 m pc ls ((as.reverse ++ sR r :: st).map (s_av ad))) (st.map (s_av ad)) (Qc (Value.ref (ad r) :: as.map (s_av ad)).toArray) (va_A (s_W L.1 ad cA μ) H.size) := by
  obtain ⟨hx, hb, hmx, hown, hts, hN, hK, hT, ⟨q1, q2, q3, q4⟩, hA⟩ := hC
  have he : (s_W L.1 ad cA μ)[r]? = some (ad r, .inr (ci, fl.mapIdx (s_fv ad μ r))) := by rw [s_W_get hr, s_E_obj hr]
  have hR : (s_rm d).frames + 1 ≤ R.frames ∧ 8 + (mi2.2.2.1 + 11) + (s_rm d).locals ≤ R.locals := ⟨by show d + 1 ≤ _; omega, by show 8 + (mi2.2.2.1 + 11) + 60 * d ≤ _; omega⟩
  have hp : PreV s H mi2.1.cls (ad r) (s_Pc L D tys ad cA H.size (sR r :: as) μ) (as.map (s_av ad)) := ⟨s_blind, va_recv hK hP hc he, s_pre (as := sR r :: as) hP hD hK hN⟩
  have hsk : (as.reverse ++ sR r :: st).map (s_av ad) = (as.map (s_av ad)).reverse ++ .ref (ad r) :: st.map (s_av ad) := by
    rw [List.map_append, List.map_reverse, List.map_cons]
    rfl
  have hroom : 2 * (F0 m pc ls ((as.reverse ++ sR r :: st).map (s_av ad))).monitorRoom + ((st.map (s_av ad)).map fun v => v.category).sum ≤ 8 := lv_room (by rw [s_catsum_eq]; exact hst)
  obtain ⟨f1, f2, f3, f4, f5, f6⟩ := id hF
  rcases hlk with hlk | ⟨host, hlk⟩
  · exact va_runV ⟨hx, hb, hmx, hown, hts⟩ hM (cwV (C := mi2.1.cls) n hts (fun w hw => by
      rcases List.mem_append.mp hw with h | h
      · simp only [List.mem_cons, List.not_mem_nil, or_false] at h
        rcases h with rfl | rfl | rfl | rfl
        · exact sT_good _ hlk
        · exact sT_good _ hV.1
        · exact sT_good _ hV.2
        · exact sT_good _ f2
      · exact s_goodc hF w h) rfl rfl rfl ⟨rfl, f3, f4, f6⟩ hR) hp rfl (by rw [List.length_map]; exact hn) hl.1 hsk hroom hd ⟨q3, q4⟩
  · exact va_runVN ⟨hx, hb, hmx, hown, hts⟩ hM ⟨va_cnB n hts (s_goodc hF) rfl rfl rfl (hN _ hlk) (hts _ f2) ⟨f3, f4, f6⟩ hR, hts _ hV.1, hts _ hV.2⟩ hp rfl (by rw [List.length_map]; exact hn) hl.1 hsk hroom hd ⟨q3, q4⟩
theorem s_runS {L : sLy} {mi mi2 : sMI} {n d idx pc : Nat} {as st : List sAV} {al : List (Option sAV)} {μ : sM} {l : Launch} {D : va_G} {tys : List (ClassId × FieldType)} {ad : Nat → Nat} {cA : Nat → ClassId} {p : Program} {e : Env} {R : Room} {s : State} {m : MethodId} {args : Array Value} {below : List Frame} {meth : Method} {c : Code} {A : Nat → Prop} {H : Heap} {locs : List Loc} {cells slots : Nat} {ls : Array Slot} {Qc : Array Value → State → Outcome → State → Prop}
    (hC : s_C L mi (d + 1) D tys cA p R s m args c A cells slots) (hl : lv_has ls mi.2.2.1 (s_ll ad 0 al)) (hP : va_P D vwCl (s_W L.1 ad cA μ) H) (hD : va_D A (s_W L.1 ad cA μ))
    (hd : decode mi.2.1 pc = .ok (.invokestatic idx, 3)) (hlk : s_ML mi.1.cls idx mi2.1) (hF : s_MF mi2 n) (hV : s_MS mi2) (hn : as.length = n) (hst : (st.map s_cat).sum ≤ 8) (hml : mi2.2.2.1 ≤ 41)
    (hM : Met l mi2.1 (Cond.code mi2.1 mi2.2.1 mi2.2.2.1 mi2.2.2.2 :: sT) (s_rm d) (s_Pc L D tys ad cA H.size as μ) Qc 0 0 (va_A (s_W L.1 ad cA μ) H.size)) :
    va_Run p l e R s m args below meth c H locs cells slots 0 0 (F0 m pc ls ((as.reverse ++ st).map (s_av ad))) (st.map (s_av ad)) (Qc (as.map (s_av ad)).toArray) (va_A (s_W L.1 ad cA μ) H.size) := by
  obtain ⟨hx, hb, hmx, hown, hts, hN, hK, hT, ⟨q1, q2, q3, q4⟩, hA⟩ := hC
  have hR : (s_rm d).frames + 1 ≤ R.frames ∧ 8 + (mi2.2.2.1 + 11) + (s_rm d).locals ≤ R.locals := ⟨by show d + 1 ≤ _; omega, by show 8 + (mi2.2.2.1 + 11) + 60 * d ≤ _; omega⟩
  have hp : PreS s H (s_Pc L D tys ad cA H.size as μ) (as.map (s_av ad)) := ⟨s_blind, s_pre (as := as) hP hD hK hN⟩
  have hsk : (as.reverse ++ st).map (s_av ad) = (as.map (s_av ad)).reverse ++ st.map (s_av ad) := by rw [List.map_append, List.map_reverse]
  have hroom : 2 * (F0 m pc ls ((as.reverse ++ st).map (s_av ad))).monitorRoom + ((st.map (s_av ad)).map fun v => v.category).sum ≤ 8 := lv_room (by rw [s_catsum_eq]; exact hst)
  obtain ⟨f1, f2, f3, f4, f5, f6⟩ := id hF
  rcases hlk with hlk | ⟨host, hlk⟩
  · exact va_runS ⟨hx, hb, hmx, hown, hts⟩ hM (va_cwS n hts (fun w hw => by
      rcases List.mem_append.mp hw with h | h
      · simp only [List.mem_cons, List.not_mem_nil, or_false] at h
        rcases h with rfl | rfl | rfl
        · exact sT_good _ hlk
        · exact sT_good _ hV
        · exact sT_good _ f2
      · exact s_goodc hF w h) rfl rfl rfl ⟨f3, f4, f6⟩ hR) hp rfl (by rw [List.length_map]; exact hn) hl.1 hsk hroom hd ⟨q3, q4⟩
  · exact va_runSN ⟨hx, hb, hmx, hown, hts⟩ hM ⟨va_cnB n hts (s_goodc hF) rfl rfl rfl (hN _ hlk) (hts _ f2) ⟨f3, f4, f6⟩ hR, hts _ hV, trivial⟩ hp rfl (by rw [List.length_map]; exact hn) hl.1 hsk hroom hd ⟨q3, q4⟩
theorem g_callVi {L : sLy} {mi mi2 : sMI} {d n : Nat} {Q : Option sAV → sM → Prop} {pc : Nat} {al : List (Option sAV)} {st : List sAV} {μ : sM} {idx ci r : Nat} {fl : List Nat} {T : u_T} {N : Nat} {sk : List sAV} (as : List sAV) (hd : decode mi.2.1 pc = .ok (.invokevirtual idx, 3)) (hlk : s_ML mi.1.cls idx mi2.1) (hF : s_MF mi2 n) (hV : s_MV mi2) (hr : L.1[r]? = some (sO_ ci fl)) (hc : vwCl[ci]? = some (mi2.1.cls, T, N)) (hn : as.length = n) (hlen : (s_ent (sR r :: as)).length ≤ mi2.2.2.1) (hst : (st.map s_cat).sum ≤ 8) (hml : mi2.2.2.1 ≤ 41) (hs : sk = as.reverse ++ sR r :: st)
    (k : sCl L mi2 d (sR r :: as) μ (kI fun x μ2 => sG L mi (d + 1) Q (pc + 3) al (sI x :: st) μ2)) : sG L mi (d + 1) Q pc al sk μ := by
  intro l D tys ad cA p e R s m args below meth c A H locs cells slots Z ls hC hl hP hD hS hZ
  subst hs
  have hFc := s_free (D := D) hD hS hC.2.2.2.2.2.2.2.2.2
  have hM := s_metI (D := D) (tys := tys) (ad := ad) (cA := cA) (sz := H.size) hF l hC.2.2.2.2.2.2.2.1 hlen k
  refine va_calli (s_runV hC hl hP hD hd hlk hF hV hr hc hn hst hml hM) hS (fun q _ h => hFc q h) hFc (fun x u t H1 locs ht hvm hw hB hz1 hk1 hS => ?_)
  obtain ⟨hP1, hD1⟩ := hB
  rw [ht] at hP1
  exact hw l D tys ad cA p e R s m args below meth c A H1 locs cells slots Z ls hC hl hP1 (hD1.weaken (fun _ _ _ h => hFc _ h)) hS hZ
theorem g_callVl {L : sLy} {mi mi2 : sMI} {d n : Nat} {Q : Option sAV → sM → Prop} {pc : Nat} {al : List (Option sAV)} {st : List sAV} {μ : sM} {idx ci r : Nat} {fl : List Nat} {T : u_T} {N : Nat} {sk : List sAV} (as : List sAV) (hd : decode mi.2.1 pc = .ok (.invokevirtual idx, 3)) (hlk : s_ML mi.1.cls idx mi2.1) (hF : s_MF mi2 n) (hV : s_MV mi2) (hr : L.1[r]? = some (sO_ ci fl)) (hc : vwCl[ci]? = some (mi2.1.cls, T, N)) (hn : as.length = n) (hlen : (s_ent (sR r :: as)).length ≤ mi2.2.2.1) (hst : (st.map s_cat).sum ≤ 8) (hml : mi2.2.2.1 ≤ 41) (hs : sk = as.reverse ++ sR r :: st)
    (k : sCl L mi2 d (sR r :: as) μ (kL fun x μ2 => sG L mi (d + 1) Q (pc + 3) al (sL x :: st) μ2)) : sG L mi (d + 1) Q pc al sk μ := by
  intro l D tys ad cA p e R s m args below meth c A H locs cells slots Z ls hC hl hP hD hS hZ
  subst hs
  have hFc := s_free (D := D) hD hS hC.2.2.2.2.2.2.2.2.2
  have hM := s_metL (D := D) (tys := tys) (ad := ad) (cA := cA) (sz := H.size) hF l hC.2.2.2.2.2.2.2.1 hlen k
  refine va_calll (s_runV hC hl hP hD hd hlk hF hV hr hc hn hst hml hM) hS (fun q _ h => hFc q h) hFc (fun x u t H1 locs ht hvm hw hB hz1 hk1 hS => ?_)
  obtain ⟨hP1, hD1⟩ := hB
  rw [ht] at hP1
  exact hw l D tys ad cA p e R s m args below meth c A H1 locs cells slots Z ls hC hl hP1 (hD1.weaken (fun _ _ _ h => hFc _ h)) hS hZ
theorem g_callVv {L : sLy} {mi mi2 : sMI} {d n : Nat} {Q : Option sAV → sM → Prop} {pc : Nat} {al : List (Option sAV)} {st : List sAV} {μ : sM} {idx ci r : Nat} {fl : List Nat} {T : u_T} {N : Nat} {sk : List sAV} (as : List sAV) (hd : decode mi.2.1 pc = .ok (.invokevirtual idx, 3)) (hlk : s_ML mi.1.cls idx mi2.1) (hF : s_MF mi2 n) (hV : s_MV mi2) (hr : L.1[r]? = some (sO_ ci fl)) (hc : vwCl[ci]? = some (mi2.1.cls, T, N)) (hn : as.length = n) (hlen : (s_ent (sR r :: as)).length ≤ mi2.2.2.1) (hst : (st.map s_cat).sum ≤ 8) (hml : mi2.2.2.1 ≤ 41) (hs : sk = as.reverse ++ sR r :: st)
    (k : sCl L mi2 d (sR r :: as) μ (kV fun μ2 => sG L mi (d + 1) Q (pc + 3) al st μ2)) : sG L mi (d + 1) Q pc al sk μ := by
  intro l D tys ad cA p e R s m args below meth c A H locs cells slots Z ls hC hl hP hD hS hZ
  subst hs
  have hFc := s_free (D := D) hD hS hC.2.2.2.2.2.2.2.2.2
  have hM := s_metV (D := D) (tys := tys) (ad := ad) (cA := cA) (sz := H.size) hF l hC.2.2.2.2.2.2.2.1 hlen k
  refine va_callv (s_runV hC hl hP hD hd hlk hF hV hr hc hn hst hml hM) hS (fun q _ h => hFc q h) hFc (fun  u t H1 locs ht hvm hw hB hz1 hk1 hS => ?_)
  obtain ⟨hP1, hD1⟩ := hB
  rw [ht] at hP1
  exact hw l D tys ad cA p e R s m args below meth c A H1 locs cells slots Z ls hC hl hP1 (hD1.weaken (fun _ _ _ h => hFc _ h)) hS hZ
theorem g_callSi {L : sLy} {mi mi2 : sMI} {d n : Nat} {Q : Option sAV → sM → Prop} {pc : Nat} {al : List (Option sAV)} {st : List sAV} {μ : sM} {idx : Nat} {sk : List sAV} (as : List sAV) (hd : decode mi.2.1 pc = .ok (.invokestatic idx, 3)) (hlk : s_ML mi.1.cls idx mi2.1) (hF : s_MF mi2 n) (hV : s_MS mi2) (hn : as.length = n) (hlen : (s_ent as).length ≤ mi2.2.2.1) (hst : (st.map s_cat).sum ≤ 8) (hml : mi2.2.2.1 ≤ 41) (hs : sk = as.reverse ++ st)
    (k : sCl L mi2 d as μ (kI fun x μ2 => sG L mi (d + 1) Q (pc + 3) al (sI x :: st) μ2)) : sG L mi (d + 1) Q pc al sk μ := by
  intro l D tys ad cA p e R s m args below meth c A H locs cells slots Z ls hC hl hP hD hS hZ
  subst hs
  have hFc := s_free (D := D) hD hS hC.2.2.2.2.2.2.2.2.2
  have hM := s_metI (D := D) (tys := tys) (ad := ad) (cA := cA) (sz := H.size) hF l hC.2.2.2.2.2.2.2.1 hlen k
  refine va_calli (s_runS hC hl hP hD hd hlk hF hV hn hst hml hM) hS (fun q _ h => hFc q h) hFc (fun x u t H1 locs ht hvm hw hB hz1 hk1 hS => ?_)
  obtain ⟨hP1, hD1⟩ := hB
  rw [ht] at hP1
  exact hw l D tys ad cA p e R s m args below meth c A H1 locs cells slots Z ls hC hl hP1 (hD1.weaken (fun _ _ _ h => hFc _ h)) hS hZ
theorem g_callSl {L : sLy} {mi mi2 : sMI} {d n : Nat} {Q : Option sAV → sM → Prop} {pc : Nat} {al : List (Option sAV)} {st : List sAV} {μ : sM} {idx : Nat} {sk : List sAV} (as : List sAV) (hd : decode mi.2.1 pc = .ok (.invokestatic idx, 3)) (hlk : s_ML mi.1.cls idx mi2.1) (hF : s_MF mi2 n) (hV : s_MS mi2) (hn : as.length = n) (hlen : (s_ent as).length ≤ mi2.2.2.1) (hst : (st.map s_cat).sum ≤ 8) (hml : mi2.2.2.1 ≤ 41) (hs : sk = as.reverse ++ st)
    (k : sCl L mi2 d as μ (kL fun x μ2 => sG L mi (d + 1) Q (pc + 3) al (sL x :: st) μ2)) : sG L mi (d + 1) Q pc al sk μ := by
  intro l D tys ad cA p e R s m args below meth c A H locs cells slots Z ls hC hl hP hD hS hZ
  subst hs
  have hFc := s_free (D := D) hD hS hC.2.2.2.2.2.2.2.2.2
  have hM := s_metL (D := D) (tys := tys) (ad := ad) (cA := cA) (sz := H.size) hF l hC.2.2.2.2.2.2.2.1 hlen k
  refine va_calll (s_runS hC hl hP hD hd hlk hF hV hn hst hml hM) hS (fun q _ h => hFc q h) hFc (fun x u t H1 locs ht hvm hw hB hz1 hk1 hS => ?_)
  obtain ⟨hP1, hD1⟩ := hB
  rw [ht] at hP1
  exact hw l D tys ad cA p e R s m args below meth c A H1 locs cells slots Z ls hC hl hP1 (hD1.weaken (fun _ _ _ h => hFc _ h)) hS hZ
theorem g_callSv {L : sLy} {mi mi2 : sMI} {d n : Nat} {Q : Option sAV → sM → Prop} {pc : Nat} {al : List (Option sAV)} {st : List sAV} {μ : sM} {idx : Nat} {sk : List sAV} (as : List sAV) (hd : decode mi.2.1 pc = .ok (.invokestatic idx, 3)) (hlk : s_ML mi.1.cls idx mi2.1) (hF : s_MF mi2 n) (hV : s_MS mi2) (hn : as.length = n) (hlen : (s_ent as).length ≤ mi2.2.2.1) (hst : (st.map s_cat).sum ≤ 8) (hml : mi2.2.2.1 ≤ 41) (hs : sk = as.reverse ++ st)
    (k : sCl L mi2 d as μ (kV fun μ2 => sG L mi (d + 1) Q (pc + 3) al st μ2)) : sG L mi (d + 1) Q pc al sk μ := by
  intro l D tys ad cA p e R s m args below meth c A H locs cells slots Z ls hC hl hP hD hS hZ
  subst hs
  have hFc := s_free (D := D) hD hS hC.2.2.2.2.2.2.2.2.2
  have hM := s_metV (D := D) (tys := tys) (ad := ad) (cA := cA) (sz := H.size) hF l hC.2.2.2.2.2.2.2.1 hlen k
  refine va_callv (s_runS hC hl hP hD hd hlk hF hV hn hst hml hM) hS (fun q _ h => hFc q h) hFc (fun  u t H1 locs ht hvm hw hB hz1 hk1 hS => ?_)
  obtain ⟨hP1, hD1⟩ := hB
  rw [ht] at hP1
  exact hw l D tys ad cA p e R s m args below meth c A H1 locs cells slots Z ls hC hl hP1 (hD1.weaken (fun _ _ _ h => hFc _ h)) hS hZ
end
section
-- small rows for the printed segments
def s_le : List (Option sAV) → List (Option sAV) → Prop
  | [], _ => True
  | none :: t, [] => s_le t []
  | none :: t, _ :: t' => s_le t t'
  | some _ :: _, [] => False
  | some v :: t, x :: t' => x = some v ∧ s_le t t'
theorem s_le_0 {l : List (Option sAV)} : s_le [] l := by unfold s_le; trivial
theorem s_le_p {t : List (Option sAV)} (h : s_le t []) : s_le (none :: t) [] := by unfold s_le; exact h
theorem s_le_n {t t' : List (Option sAV)} {x : Option sAV} (h : s_le t t') : s_le (none :: t) (x :: t') := by unfold s_le; exact h
theorem s_le_s {t t' : List (Option sAV)} {v : sAV} (h : s_le t t') : s_le (some v :: t) (some v :: t') := by unfold s_le; exact ⟨rfl, h⟩
theorem s_le_get : ∀ {a b : List (Option sAV)}, s_le a b → ∀ {k : Nat} {v : sAV}, a[k]? = some (some v) → b[k]? = some (some v)
  | [], _, _, k, v, hk => by simp at hk
  | none :: t, [], h, k, v, hk => by
    unfold s_le at h
    cases k with
    | zero => simp at hk
    | succ k => have := s_le_get h (k := k) (by simpa using hk); simp at this
  | none :: t, x :: t', h, k, v, hk => by
    unfold s_le at h
    cases k with
    | zero => simp at hk
    | succ k => have := s_le_get h (k := k) (by simpa using hk); simpa using this
  | some w :: t, [], h, k, v, hk => by
    unfold s_le at h
    exact h.elim
  | some w :: t, x :: t', h, k, v, hk => by
    unfold s_le at h
    cases k with
    | zero => rw [h.1]; simpa using hk
    | succ k => have := s_le_get h.2 (k := k) (by simpa using hk); simpa using this
theorem sG.loc {L : sLy} {mi : sMI} {d : Nat} {Q : Option sAV → sM → Prop} {pc : Nat} {al al2 : List (Option sAV)} {st : List sAV} {μ : sM} (hle : s_le al2 al) (h : sG L mi d Q pc al2 st μ) : sG L mi d Q pc al st μ :=
  fun l D tys ad cA p e R s m args below meth c A H locs cells slots Z ls hC hl hP hD hS hZ => h l D tys ad cA p e R s m args below meth c A H locs cells slots Z ls hC (s_lv_sub hl (fun q hq => by
    obtain ⟨k, w⟩ := q
    obtain ⟨j, v, h1, h2, h3⟩ := s_ll_mem.mp hq
    exact s_ll_mem.mpr ⟨j, v, h1, s_le_get hle h2, h3⟩)) hP hD hS hZ
theorem kI_mono {f g : Int32 → sM → Prop} (h : ∀ x μ, f x μ → g x μ) : ∀ v μ, kI f v μ → kI g v μ := fun v μ q => by
  match v, q with
  | some (.inl x), q => exact h x μ q
  | none, q => exact q.elim
  | some (.inr x), q => exact q.elim
theorem kL_mono {f g : Int64 → sM → Prop} (h : ∀ x μ, f x μ → g x μ) : ∀ v μ, kL f v μ → kL g v μ := fun v μ q => by
  match v, q with
  | some (.inr (.inl x)), q => exact h x μ q
  | none, q => exact q.elim
  | some (.inl x), q => exact q.elim
  | some (.inr (.inr x)), q => exact q.elim
theorem kV_mono {f g : sM → Prop} (h : ∀ μ, f μ → g μ) : ∀ v μ, kV f v μ → kV g v μ := fun v μ q => by
  match v, q with
  | none, q => exact h μ q
  | some x, q => exact q.elim
theorem s_nb {e : Int32} (h : e = 0 ∨ e = 1) : narrow .boolean (.int e) = .int e := by
  rcases h with rfl | rfl <;> decide +kernel
/-- what arraycopy from the first place of r0 to the first place of r1 leaves -/
def s_cp (μ : sM) (r0 r1 : Nat) (n : Int32) : sM := (va_up μ.1 r1 (va_cpy (μ.1 r0) (μ.1 r1) 0 0 n.toNatClampNeg), μ.2)
theorem h_copy {L : sLy} {mi : sMI} {d : Nat} {Q : Option sAV → sM → Prop} {pc : Nat} {al : List (Option sAV)} {μ : sM} {r0 r1 n0 n1 idx : Nat} {n : Int32} (hd : decode mi.2.1 pc = .ok (.invokestatic idx, 3)) (hlk : Cond.methodLink mi.1.cls idx arraycopyName ∈ sT) (hr0 : L.1[r0]? = some (sA_ n0)) (hr1 : L.1[r1]? = some (sA_ n1)) (ht0 : L.2 r0 = .int) (ht1 : L.2 r1 = .int) (h3 : ¬ n < 0) (h4 : n.toNatClampNeg ≤ n0) (h5 : n.toNatClampNeg ≤ n1)
    (k : sG L mi (d + 1) Q (pc + 3) al [] (s_cp μ r0 r1 n)) : sG L mi (d + 1) Q pc al [sI n, sI 0, sR r1, sI 0, sR r0] μ :=
  g_copy hd hlk hr0 hr1 ht0 ht1 (by decide) (by decide) h3 (by rw [show (0 : Int32).toNatClampNeg = 0 from rfl]; omega) (by rw [show (0 : Int32).toNatClampNeg = 0 from rfl]; omega) rfl k
theorem h_geti {L : sLy} {mi : sMI} {d : Nat} {Q : Option sAV → sM → Prop} {pc : Nat} {al : List (Option sAV)} {st : List sAV} {μ : sM} {r idx ci k : Nat} {fl : List Nat} {ty : FieldType} {fin : Bool} (x : Int32) (hd : decode mi.2.1 pc = .ok (.getfield idx, 3)) (hf : s_FL mi.1.cls idx ci k ty fin) (hr : L.1[r]? = some (sO_ ci fl)) (hk : fl[k]? = some 0) (hx : μ.1 r k = x) (kk : sG L mi d Q (pc + 3) al (sI x :: st) μ) : sG L mi d Q pc al (sR r :: st) μ := by
  subst hx; exact g_geti hd hf hr hk kk
theorem h_getl {L : sLy} {mi : sMI} {d : Nat} {Q : Option sAV → sM → Prop} {pc : Nat} {al : List (Option sAV)} {st : List sAV} {μ : sM} {r idx ci k : Nat} {fl : List Nat} {ty : FieldType} {fin : Bool} (x : Int64) (hd : decode mi.2.1 pc = .ok (.getfield idx, 3)) (hf : s_FL mi.1.cls idx ci k ty fin) (hr : L.1[r]? = some (sO_ ci fl)) (hk : fl[k]? = some 1) (hx : μ.2 r k = x) (kk : sG L mi d Q (pc + 3) al (sL x :: st) μ) : sG L mi d Q pc al (sR r :: st) μ := by
  subst hx; exact g_getl hd hf hr hk kk
theorem h_iald {L : sLy} {mi : sMI} {d : Nat} {Q : Option sAV → sM → Prop} {pc : Nat} {al : List (Option sAV)} {st : List sAV} {μ : sM} {r n : Nat} {i : Int32} (x : Int32) (hd : decode mi.2.1 pc = .ok (.iaload, 1)) (hr : L.1[r]? = some (sA_ n)) (ht : L.2 r = .int) (hi : vp_in i n) (hx : μ.1 r i.toNatClampNeg = x) (k : sG L mi d Q (pc + 1) al (sI x :: st) μ) : sG L mi d Q pc al (sI i :: sR r :: st) μ := by
  subst hx; exact g_iald hd hr ht hi k
theorem h_zald {L : sLy} {mi : sMI} {d : Nat} {Q : Option sAV → sM → Prop} {pc : Nat} {al : List (Option sAV)} {st : List sAV} {μ : sM} {r n : Nat} {i : Int32} (x : Int32) (hd : decode mi.2.1 pc = .ok (.baload, 1)) (hr : L.1[r]? = some (sA_ n)) (ht : L.2 r = .boolean) (hi : vp_in i n) (hx : μ.1 r i.toNatClampNeg = x) (k : sG L mi d Q (pc + 1) al (sI x :: st) μ) : sG L mi d Q pc al (sI i :: sR r :: st) μ := by
  subst hx; exact g_zald hd hr ht hi k
theorem h_iast {L : sLy} {mi : sMI} {d : Nat} {Q : Option sAV → sM → Prop} {pc : Nat} {al : List (Option sAV)} {st : List sAV} {μ : sM} {r n : Nat} {i x : Int32} (j : Nat) (hd : decode mi.2.1 pc = .ok (.iastore, 1)) (hr : L.1[r]? = some (sA_ n)) (ht : L.2 r = .int) (hi : vp_in i n) (hj : i.toNatClampNeg = j) (k : sG L mi d Q (pc + 1) al st (s_u μ r j x)) : sG L mi d Q pc al (sI x :: sI i :: sR r :: st) μ := by
  subst hj; exact g_iast hd hr ht hi k
theorem h_zast {L : sLy} {mi : sMI} {d : Nat} {Q : Option sAV → sM → Prop} {pc : Nat} {al : List (Option sAV)} {st : List sAV} {μ : sM} {r n : Nat} {i x : Int32} (j : Nat) (w : Int32) (hd : decode mi.2.1 pc = .ok (.bastore, 1)) (hr : L.1[r]? = some (sA_ n)) (ht : L.2 r = .boolean) (hi : vp_in i n) (hj : i.toNatClampNeg = j) (hw : vp_nar .boolean x = w) (k : sG L mi d Q (pc + 1) al st (s_u μ r j w)) : sG L mi d Q pc al (sI x :: sI i :: sR r :: st) μ := by
  subst hj; subst hw; exact g_zast hd hr ht hi k
theorem h_aald {L : sLy} {mi : sMI} {d : Nat} {Q : Option sAV → sM → Prop} {pc : Nat} {al : List (Option sAV)} {st : List sAV} {μ : sM} {r n b : Nat} {i : Int32} (r2 : Nat) (hd : decode mi.2.1 pc = .ok (.aaload, 1)) (hr : L.1[r]? = some (sQ_ n b)) (ht : (L.2 r).isReference = true) (hi : vp_in i n) (hj : b + i.toNatClampNeg = r2) (k : sG L mi d Q (pc + 1) al (sR r2 :: st) μ) : sG L mi d Q pc al (sI i :: sR r :: st) μ := by
  subst hj; exact g_aald hd hr ht hi k
theorem s_vpj {i : Int32} {n : Nat} (h : vp_in i n) : i.toNatClampNeg < n := Nat.not_le.mp fun q => h (Or.inr q)
theorem s_rbl {i : Int32} (h : vp_in i 7) : sLL.1[50 + i.toNatClampNeg]? = some (sA_ 10) ∧ sLL.2 (50 + i.toNatClampNeg) = .int := by
  have hj := s_vpj h
  generalize i.toNatClampNeg = j at hj
  have : j = 0 ∨ j = 1 ∨ j = 2 ∨ j = 3 ∨ j = 4 ∨ j = 5 ∨ j = 6 := by omega
  rcases this with rfl | rfl | rfl | rfl | rfl | rfl | rfl <;> exact ⟨rfl, rfl⟩
def s_us (x y : Int32) : Int32 := (x.toUInt32 >>> (y.toUInt32 &&& Int32.toUInt32 31)).toInt32
def s_rem (x y : Int32) : Int32 := x - x / y * y
def s_lrem (x y : Int64) : Int64 := x - x / y * y
theorem h_iushr {L : sLy} {mi : sMI} {d : Nat} {Q : Option sAV → sM → Prop} {pc : Nat} {al : List (Option sAV)} {st : List sAV} {μ : sM} {x y : Int32} (hd : decode mi.2.1 pc = .ok (.iushr, 1)) (k : sG L mi d Q (pc + 1) al (sI (s_us x y) :: st) μ) : sG L mi d Q pc al (sI y :: sI x :: st) μ := g_iushr hd k
theorem h_irem {L : sLy} {mi : sMI} {d : Nat} {Q : Option sAV → sM → Prop} {pc : Nat} {al : List (Option sAV)} {st : List sAV} {μ : sM} {x y : Int32} (hd : decode mi.2.1 pc = .ok (.irem, 1)) (hne : ¬ y = 0) (k : sG L mi d Q (pc + 1) al (sI (s_rem x y) :: st) μ) : sG L mi d Q pc al (sI y :: sI x :: st) μ := g_irem hd hne k
theorem h_lrem {L : sLy} {mi : sMI} {d : Nat} {Q : Option sAV → sM → Prop} {pc : Nat} {al : List (Option sAV)} {st : List sAV} {μ : sM} {x y : Int64} (hd : decode mi.2.1 pc = .ok (.lrem, 1)) (hne : ¬ y = 0) (k : sG L mi d Q (pc + 1) al (sL (s_lrem x y) :: st) μ) : sG L mi d Q pc al (sL y :: sL x :: st) μ := g_lrem hd hne k
end
section
-- SEGMENTS of X1,J6 (printed by wip/whole/walker.py)
set_option maxRecDepth 20000 in
theorem eJ6_bitCount_0f7a4 {d : Nat} {Q : Option sAV → sM → Prop} {μ : sM} {a0 : Int32} (h : Q (some (sI ((((((((a0 - ((s_us a0 1) &&& 1431655765)) &&& 858993459) + ((s_us (a0 - ((s_us a0 1) &&& 1431655765)) 2) &&& 858993459)) + (s_us (((a0 - ((s_us a0 1) &&& 1431655765)) &&& 858993459) + ((s_us (a0 - ((s_us a0 1) &&& 1431655765)) 2) &&& 858993459)) 4)) &&& 252645135) + (s_us (((((a0 - ((s_us a0 1) &&& 1431655765)) &&& 858993459) + ((s_us (a0 - ((s_us a0 1) &&& 1431655765)) 2) &&& 858993459)) + (s_us (((a0 - ((s_us a0 1) &&& 1431655765)) &&& 858993459) + ((s_us (a0 - ((s_us a0 1) &&& 1431655765)) 2) &&& 858993459)) 4)) &&& 252645135) 8)) + (s_us ((((((a0 - ((s_us a0 1) &&& 1431655765)) &&& 858993459) + ((s_us (a0 - ((s_us a0 1) &&& 1431655765)) 2) &&& 858993459)) + (s_us (((a0 - ((s_us a0 1) &&& 1431655765)) &&& 858993459) + ((s_us (a0 - ((s_us a0 1) &&& 1431655765)) 2) &&& 858993459)) 4)) &&& 252645135) + (s_us (((((a0 - ((s_us a0 1) &&& 1431655765)) &&& 858993459) + ((s_us (a0 - ((s_us a0 1) &&& 1431655765)) 2) &&& 858993459)) + (s_us (((a0 - ((s_us a0 1) &&& 1431655765)) &&& 858993459) + ((s_us (a0 - ((s_us a0 1) &&& 1431655765)) 2) &&& 858993459)) 4)) &&& 252645135) 8)) 16)) &&& 63))) μ) : sCl sLL mJ6_bitCount_0f7a4 d [sI a0] μ Q := by
  refine sG.loc (al2 := [some (sI a0)]) (s_le_s s_le_0) ?_
  refine g_iload_n dJ6_bitCount_0f7a4_0 rfl ?_
  refine g_iload_n dJ6_bitCount_0f7a4_1 rfl ?_
  refine g_iconst 1 dJ6_bitCount_0f7a4_2 (by decide) ?_
  refine h_iushr dJ6_bitCount_0f7a4_3 ?_
  refine g_ldcw dJ6_bitCount_0f7a4_4 qJ6_265 ?_
  refine g_iand dJ6_bitCount_0f7a4_7 ?_
  refine g_isub dJ6_bitCount_0f7a4_8 ?_
  refine g_istore_n [some (sI (a0 - ((s_us a0 1) &&& 1431655765)))] dJ6_bitCount_0f7a4_9 rfl (by decide) rfl ?_
  refine g_iload_n dJ6_bitCount_0f7a4_10 rfl ?_
  refine g_ldcw dJ6_bitCount_0f7a4_11 qJ6_266 ?_
  refine g_iand dJ6_bitCount_0f7a4_14 ?_
  refine g_iload_n dJ6_bitCount_0f7a4_15 rfl ?_
  refine g_iconst 2 dJ6_bitCount_0f7a4_16 (by decide) ?_
  refine h_iushr dJ6_bitCount_0f7a4_17 ?_
  refine g_ldcw dJ6_bitCount_0f7a4_18 qJ6_266 ?_
  refine g_iand dJ6_bitCount_0f7a4_21 ?_
  refine g_iadd dJ6_bitCount_0f7a4_22 ?_
  refine g_istore_n [some (sI (((a0 - ((s_us a0 1) &&& 1431655765)) &&& 858993459) + ((s_us (a0 - ((s_us a0 1) &&& 1431655765)) 2) &&& 858993459)))] dJ6_bitCount_0f7a4_23 rfl (by decide) rfl ?_
  refine g_iload_n dJ6_bitCount_0f7a4_24 rfl ?_
  refine g_iload_n dJ6_bitCount_0f7a4_25 rfl ?_
  refine g_iconst 4 dJ6_bitCount_0f7a4_26 (by decide) ?_
  refine h_iushr dJ6_bitCount_0f7a4_27 ?_
  refine g_iadd dJ6_bitCount_0f7a4_28 ?_
  refine g_ldcw dJ6_bitCount_0f7a4_29 qJ6_267 ?_
  refine g_iand dJ6_bitCount_0f7a4_32 ?_
  refine g_istore_n [some (sI (((((a0 - ((s_us a0 1) &&& 1431655765)) &&& 858993459) + ((s_us (a0 - ((s_us a0 1) &&& 1431655765)) 2) &&& 858993459)) + (s_us (((a0 - ((s_us a0 1) &&& 1431655765)) &&& 858993459) + ((s_us (a0 - ((s_us a0 1) &&& 1431655765)) 2) &&& 858993459)) 4)) &&& 252645135))] dJ6_bitCount_0f7a4_33 rfl (by decide) rfl ?_
  refine g_iload_n dJ6_bitCount_0f7a4_34 rfl ?_
  refine g_iload_n dJ6_bitCount_0f7a4_35 rfl ?_
  refine g_bipush 8 dJ6_bitCount_0f7a4_36 (by decide) ?_
  refine h_iushr dJ6_bitCount_0f7a4_38 ?_
  refine g_iadd dJ6_bitCount_0f7a4_39 ?_
  refine g_istore_n [some (sI ((((((a0 - ((s_us a0 1) &&& 1431655765)) &&& 858993459) + ((s_us (a0 - ((s_us a0 1) &&& 1431655765)) 2) &&& 858993459)) + (s_us (((a0 - ((s_us a0 1) &&& 1431655765)) &&& 858993459) + ((s_us (a0 - ((s_us a0 1) &&& 1431655765)) 2) &&& 858993459)) 4)) &&& 252645135) + (s_us (((((a0 - ((s_us a0 1) &&& 1431655765)) &&& 858993459) + ((s_us (a0 - ((s_us a0 1) &&& 1431655765)) 2) &&& 858993459)) + (s_us (((a0 - ((s_us a0 1) &&& 1431655765)) &&& 858993459) + ((s_us (a0 - ((s_us a0 1) &&& 1431655765)) 2) &&& 858993459)) 4)) &&& 252645135) 8)))] dJ6_bitCount_0f7a4_40 rfl (by decide) rfl ?_
  refine g_iload_n dJ6_bitCount_0f7a4_41 rfl ?_
  refine g_iload_n dJ6_bitCount_0f7a4_42 rfl ?_
  refine g_bipush 16 dJ6_bitCount_0f7a4_43 (by decide) ?_
  refine h_iushr dJ6_bitCount_0f7a4_45 ?_
  refine g_iadd dJ6_bitCount_0f7a4_46 ?_
  refine g_istore_n [some (sI (((((((a0 - ((s_us a0 1) &&& 1431655765)) &&& 858993459) + ((s_us (a0 - ((s_us a0 1) &&& 1431655765)) 2) &&& 858993459)) + (s_us (((a0 - ((s_us a0 1) &&& 1431655765)) &&& 858993459) + ((s_us (a0 - ((s_us a0 1) &&& 1431655765)) 2) &&& 858993459)) 4)) &&& 252645135) + (s_us (((((a0 - ((s_us a0 1) &&& 1431655765)) &&& 858993459) + ((s_us (a0 - ((s_us a0 1) &&& 1431655765)) 2) &&& 858993459)) + (s_us (((a0 - ((s_us a0 1) &&& 1431655765)) &&& 858993459) + ((s_us (a0 - ((s_us a0 1) &&& 1431655765)) 2) &&& 858993459)) 4)) &&& 252645135) 8)) + (s_us ((((((a0 - ((s_us a0 1) &&& 1431655765)) &&& 858993459) + ((s_us (a0 - ((s_us a0 1) &&& 1431655765)) 2) &&& 858993459)) + (s_us (((a0 - ((s_us a0 1) &&& 1431655765)) &&& 858993459) + ((s_us (a0 - ((s_us a0 1) &&& 1431655765)) 2) &&& 858993459)) 4)) &&& 252645135) + (s_us (((((a0 - ((s_us a0 1) &&& 1431655765)) &&& 858993459) + ((s_us (a0 - ((s_us a0 1) &&& 1431655765)) 2) &&& 858993459)) + (s_us (((a0 - ((s_us a0 1) &&& 1431655765)) &&& 858993459) + ((s_us (a0 - ((s_us a0 1) &&& 1431655765)) 2) &&& 858993459)) 4)) &&& 252645135) 8)) 16)))] dJ6_bitCount_0f7a4_47 rfl (by decide) rfl ?_
  refine g_iload_n dJ6_bitCount_0f7a4_48 rfl ?_
  refine g_bipush 63 dJ6_bitCount_0f7a4_49 (by decide) ?_
  refine g_iand dJ6_bitCount_0f7a4_51 ?_
  exact g_iret dJ6_bitCount_0f7a4_52 rfl rfl h
set_option maxRecDepth 20000 in
theorem eX1_begin {d : Nat} {Q : Option sAV → sM → Prop} {μ : sM} (h : Q none (s_u (s_u (s_cp μ 6 36 7) 35 2 (μ.1 1 1)) 35 3 (-6))) : sCl sLL mX1_begin (d + 1) [sR 35] μ Q := by
  refine sG.loc (al2 := [some (sR 35)]) (s_le_s s_le_0) ?_
  refine g_aload_n dX1_begin_0 rfl ?_
  refine g_getr (r2 := 1) dX1_begin_1 fX1_15 rfl rfl ?_
  refine g_getr (r2 := 6) dX1_begin_4 fX1_19 rfl rfl ?_
  refine g_iconst 0 dX1_begin_7 (by decide) ?_
  refine g_aload_n dX1_begin_8 rfl ?_
  refine g_getr (r2 := 36) dX1_begin_9 fX1_9 rfl rfl ?_
  refine g_iconst 0 dX1_begin_12 (by decide) ?_
  refine g_bipush 7 dX1_begin_13 (by decide) ?_
  refine h_copy dX1_begin_15 lX1_22 rfl rfl rfl rfl (by decide) (Nat.le_of_ble_eq_true rfl) (Nat.le_of_ble_eq_true rfl) ?_
  refine g_aload_n dX1_begin_18 rfl ?_
  refine g_aload_n dX1_begin_19 rfl ?_
  refine g_getr (r2 := 1) dX1_begin_20 fX1_15 rfl rfl ?_
  refine h_geti (μ.1 1 1) dX1_begin_23 fX1_28 rfl rfl rfl ?_
  refine g_puti dX1_begin_26 fX1_32 rfl rfl rfl rfl ?_
  refine g_aload_n dX1_begin_29 rfl ?_
  refine g_bipush (-6) dX1_begin_30 (by decide) ?_
  refine g_puti dX1_begin_32 fX1_33 rfl rfl rfl rfl ?_
  exact g_vret dX1_begin_35 rfl h
set_option maxRecDepth 20000 in
theorem eX1_choice {d : Nat} {Q : Option sAV → sM → Prop} {μ : sM} {a1 : Int32} (h : sG sLL mX1_choice (d + 1) Q 8 [some (sR 35), some (sI a1), some (sI (-6)), some (sI 0), some (sI 0), none] [] μ) : sCl sLL mX1_choice (d + 1) [sR 35, sI a1] μ Q := by
  refine sG.loc (al2 := [some (sR 35), some (sI a1), none, none, none, none]) (s_le_s (s_le_s (s_le_p (s_le_p (s_le_p (s_le_p s_le_0)))))) ?_
  refine g_bipush (-6) dX1_choice_0 (by decide) ?_
  refine g_istore_n [some (sR 35), some (sI a1), some (sI (-6)), none, none, none] dX1_choice_2 rfl (by decide) rfl ?_
  refine g_iconst 0 dX1_choice_3 (by decide) ?_
  refine g_istore_n [some (sR 35), some (sI a1), some (sI (-6)), some (sI 0), none, none] dX1_choice_4 rfl (by decide) rfl ?_
  refine g_iconst 0 dX1_choice_5 (by decide) ?_
  refine g_istore [some (sR 35), some (sI a1), some (sI (-6)), some (sI 0), some (sI 0), none] dX1_choice_6 (by decide) rfl ?_
  exact sG.loc (s_le_s (s_le_s (s_le_s (s_le_s (s_le_s (s_le_n s_le_0)))))) h
set_option maxRecDepth 20000 in
theorem sX1_choice_8 {d : Nat} {Q : Option sAV → sM → Prop} {μ : sM} {x1 : Int32} {x2 : Int32} {x3 : Int32} {x4 : Int32} (h : (((μ.1 1 0) ≤ x4 → Q (some (sI x2)) μ) ∧ (¬ (μ.1 1 0) ≤ x4 → (((((μ.1 35 2) >>> (x4 &&& 31)) &&& 1) = 1 → sG sLL mX1_choice (d + 1) Q 8 [some (sR 35), some (sI x1), some (sI x2), some (sI x3), some (sI (x4 + 1)), none] [] μ) ∧ (¬ (((μ.1 35 2) >>> (x4 &&& 31)) &&& 1) = 1 → (vp_in x4 7 ∧ ((¬ (μ.1 36 x4.toNatClampNeg) = 0 → sCl sLL mX1_rank d [sR 35, sI x1, sI x4] μ (kI fun r1 μ1 => ((x2 = (-6) → sG sLL mX1_choice (d + 1) Q 8 [some (sR 35), some (sI x1), some (sI x4), some (sI r1), some (sI (x4 + 1)), none] [] μ1) ∧ (¬ x2 = (-6) → ((x3 ≤ r1 → sG sLL mX1_choice (d + 1) Q 8 [some (sR 35), some (sI x1), some (sI x2), some (sI x3), some (sI (x4 + 1)), none] [] μ1) ∧ (¬ x3 ≤ r1 → sG sLL mX1_choice (d + 1) Q 8 [some (sR 35), some (sI x1), some (sI x4), some (sI r1), some (sI (x4 + 1)), none] [] μ1)))))) ∧ ((μ.1 36 x4.toNatClampNeg) = 0 → sG sLL mX1_choice (d + 1) Q 8 [some (sR 35), some (sI x1), some (sI x2), some (sI x3), some (sI (x4 + 1)), none] [] μ)))))))) : sG sLL mX1_choice (d + 1) Q 8 [some (sR 35), some (sI x1), some (sI x2), some (sI x3), some (sI x4), none] [] μ := by
  refine g_iload dX1_choice_8 rfl ?_
  refine g_aload_n dX1_choice_10 rfl ?_
  refine g_getr (r2 := 1) dX1_choice_11 fX1_15 rfl rfl ?_
  refine h_geti (μ.1 1 0) dX1_choice_14 fX1_36 rfl rfl rfl ?_
  refine g_icmp_ge 79 dX1_choice_17 (by decide) (fun q => ?_) (fun q => ?_)
  · have h := h.1 q
    refine g_iload_n dX1_choice_79 rfl ?_
    exact g_iret dX1_choice_80 rfl rfl h
  · have h := h.2 q
    refine g_aload_n dX1_choice_20 rfl ?_
    refine h_geti (μ.1 35 2) dX1_choice_21 fX1_32 rfl rfl rfl ?_
    refine g_iload dX1_choice_24 rfl ?_
    refine g_ishr dX1_choice_26 ?_
    refine g_iconst 1 dX1_choice_27 (by decide) ?_
    refine g_iand dX1_choice_28 ?_
    refine g_iconst 1 dX1_choice_29 (by decide) ?_
    refine g_icmp_eq 73 dX1_choice_30 (by decide) (fun q => ?_) (fun q => ?_)
    · have h := h.1 q
      refine g_iinc (x4 + 1) [some (sR 35), some (sI x1), some (sI x2), some (sI x3), some (sI (x4 + 1)), none] dX1_choice_73 rfl rfl (by decide) rfl ?_
      refine g_goto 8 dX1_choice_76 (by decide) ?_
      exact sG.loc (s_le_s (s_le_s (s_le_s (s_le_s (s_le_s (s_le_n s_le_0)))))) h
    · have h := h.2 q
      refine g_aload_n dX1_choice_33 rfl ?_
      refine g_getr (r2 := 36) dX1_choice_34 fX1_9 rfl rfl ?_
      refine g_iload dX1_choice_37 rfl ?_
      obtain ⟨v1, h⟩ := h
      refine h_iald (μ.1 36 x4.toNatClampNeg) dX1_choice_39 rfl rfl v1 rfl ?_
      refine g_if_ne 46 dX1_choice_40 (by decide) (fun q => ?_) (fun q => ?_)
      · have h := h.1 q
        refine g_aload_n dX1_choice_46 rfl ?_
        refine g_iload_n dX1_choice_47 rfl ?_
        refine g_iload dX1_choice_48 rfl ?_
        refine g_callVi (mi2 := mX1_rank) (r := 35) (st := []) [sI x1, sI x4] dX1_choice_50 lX1_39 kX1_rank vX1_rank rfl rfl rfl (Nat.le_of_ble_eq_true rfl) (Nat.le_of_ble_eq_true rfl) (Nat.le_of_ble_eq_true rfl) rfl ?_
        refine sG.mono h (kI_mono fun r1 μ1 h => ?_)
        refine g_istore [some (sR 35), some (sI x1), some (sI x2), some (sI x3), some (sI x4), some (sI r1)] dX1_choice_53 (by decide) rfl ?_
        refine g_iload_n dX1_choice_55 rfl ?_
        refine g_bipush (-6) dX1_choice_56 (by decide) ?_
        refine g_icmp_eq 67 dX1_choice_58 (by decide) (fun q => ?_) (fun q => ?_)
        · have h := h.1 q
          refine g_iload dX1_choice_67 rfl ?_
          refine g_istore_n [some (sR 35), some (sI x1), some (sI x4), some (sI x3), some (sI x4), some (sI r1)] dX1_choice_69 rfl (by decide) rfl ?_
          refine g_iload dX1_choice_70 rfl ?_
          refine g_istore_n [some (sR 35), some (sI x1), some (sI x4), some (sI r1), some (sI x4), some (sI r1)] dX1_choice_72 rfl (by decide) rfl ?_
          refine g_iinc (x4 + 1) [some (sR 35), some (sI x1), some (sI x4), some (sI r1), some (sI (x4 + 1)), some (sI r1)] dX1_choice_73 rfl rfl (by decide) rfl ?_
          refine g_goto 8 dX1_choice_76 (by decide) ?_
          exact sG.loc (s_le_s (s_le_s (s_le_s (s_le_s (s_le_s (s_le_n s_le_0)))))) h
        · have h := h.2 q
          refine g_iload dX1_choice_61 rfl ?_
          refine g_iload_n dX1_choice_63 rfl ?_
          refine g_icmp_ge 73 dX1_choice_64 (by decide) (fun q => ?_) (fun q => ?_)
          · have h := h.1 q
            refine g_iinc (x4 + 1) [some (sR 35), some (sI x1), some (sI x2), some (sI x3), some (sI (x4 + 1)), some (sI r1)] dX1_choice_73 rfl rfl (by decide) rfl ?_
            refine g_goto 8 dX1_choice_76 (by decide) ?_
            exact sG.loc (s_le_s (s_le_s (s_le_s (s_le_s (s_le_s (s_le_n s_le_0)))))) h
          · have h := h.2 q
            refine g_iload dX1_choice_67 rfl ?_
            refine g_istore_n [some (sR 35), some (sI x1), some (sI x4), some (sI x3), some (sI x4), some (sI r1)] dX1_choice_69 rfl (by decide) rfl ?_
            refine g_iload dX1_choice_70 rfl ?_
            refine g_istore_n [some (sR 35), some (sI x1), some (sI x4), some (sI r1), some (sI x4), some (sI r1)] dX1_choice_72 rfl (by decide) rfl ?_
            refine g_iinc (x4 + 1) [some (sR 35), some (sI x1), some (sI x4), some (sI r1), some (sI (x4 + 1)), some (sI r1)] dX1_choice_73 rfl rfl (by decide) rfl ?_
            refine g_goto 8 dX1_choice_76 (by decide) ?_
            exact sG.loc (s_le_s (s_le_s (s_le_s (s_le_s (s_le_s (s_le_n s_le_0)))))) h
      · have h := h.2 q
        refine g_goto 73 dX1_choice_43 (by decide) ?_
        refine g_iinc (x4 + 1) [some (sR 35), some (sI x1), some (sI x2), some (sI x3), some (sI (x4 + 1)), none] dX1_choice_73 rfl rfl (by decide) rfl ?_
        refine g_goto 8 dX1_choice_76 (by decide) ?_
        exact sG.loc (s_le_s (s_le_s (s_le_s (s_le_s (s_le_s (s_le_n s_le_0)))))) h
set_option maxRecDepth 20000 in
theorem eX1_rank {d : Nat} {Q : Option sAV → sM → Prop} {μ : sM} {a1 : Int32} {a2 : Int32} (h : (vp_in a1 4 ∧ (((μ.1 11 a1.toNatClampNeg) = 0 → (vp_in a2 7 ∧ Q (some (sI (if 0 ≤ ((μ.1 4 a2.toNatClampNeg) - (μ.1 9 a1.toNatClampNeg)) then ((μ.1 4 a2.toNatClampNeg) - (μ.1 9 a1.toNatClampNeg)) else 0 - ((μ.1 4 a2.toNatClampNeg) - (μ.1 9 a1.toNatClampNeg))))) μ)) ∧ (¬ (μ.1 11 a1.toNatClampNeg) = 0 → (((μ.1 11 a1.toNatClampNeg) = 1 → (vp_in a2 7 ∧ Q (some (sI (-(μ.1 36 a2.toNatClampNeg)))) μ)) ∧ (¬ (μ.1 11 a1.toNatClampNeg) = 1 → (((μ.1 11 a1.toNatClampNeg) = 2 → ((a2 ≤ (μ.1 35 3) → Q (some (sI (a2 + 7))) μ) ∧ (¬ a2 ≤ (μ.1 35 3) → Q (some (sI a2)) μ))) ∧ (¬ (μ.1 11 a1.toNatClampNeg) = 2 → (vp_in a2 7 ∧ (((μ.1 36 a2.toNatClampNeg) < (μ.1 10 a1.toNatClampNeg) → Q (some (sI 1)) μ) ∧ (¬ (μ.1 36 a2.toNatClampNeg) < (μ.1 10 a1.toNatClampNeg) → Q (some (sI 0)) μ))))))))))) : sCl sLL mX1_rank (d + 1) [sR 35, sI a1, sI a2] μ Q := by
  refine sG.loc (al2 := [some (sR 35), some (sI a1), some (sI a2)]) (s_le_s (s_le_s (s_le_s s_le_0))) ?_
  refine g_aload_n dX1_rank_0 rfl ?_
  refine g_getr (r2 := 1) dX1_rank_1 fX1_15 rfl rfl ?_
  refine g_getr (r2 := 11) dX1_rank_4 fX1_43 rfl rfl ?_
  refine g_iload_n dX1_rank_7 rfl ?_
  obtain ⟨v1, h⟩ := h
  refine h_iald (μ.1 11 a1.toNatClampNeg) dX1_rank_8 rfl rfl v1 rfl ?_
  by_cases q0 : (μ.1 11 a1.toNatClampNeg) = 0
  · have h := h.1 q0
    refine g_tin 36 0 dX1_rank_9 (by rw [q0]; decide) (by decide) rfl (by decide) ?_
    refine g_aload_n dX1_rank_36 rfl ?_
    refine g_getr (r2 := 1) dX1_rank_37 fX1_15 rfl rfl ?_
    refine g_getr (r2 := 4) dX1_rank_40 fX1_46 rfl rfl ?_
    refine g_iload_n dX1_rank_43 rfl ?_
    obtain ⟨v2, h⟩ := h
    refine h_iald (μ.1 4 a2.toNatClampNeg) dX1_rank_44 rfl rfl v2 rfl ?_
    refine g_aload_n dX1_rank_45 rfl ?_
    refine g_getr (r2 := 1) dX1_rank_46 fX1_15 rfl rfl ?_
    refine g_getr (r2 := 9) dX1_rank_49 fX1_49 rfl rfl ?_
    refine g_iload_n dX1_rank_52 rfl ?_
    refine h_iald (μ.1 9 a1.toNatClampNeg) dX1_rank_53 rfl rfl v1 rfl ?_
    refine g_isub dX1_rank_54 ?_
    refine g_mabs dX1_rank_55 lX1_52 (Nat.le_of_ble_eq_true rfl) ?_
    exact g_iret dX1_rank_58 rfl rfl h
  · have h := h.2 q0
    by_cases q1 : (μ.1 11 a1.toNatClampNeg) = 1
    · have h := h.1 q1
      refine g_tin 59 1 dX1_rank_9 (by rw [q1]; decide) (by decide) rfl (by decide) ?_
      refine g_aload_n dX1_rank_59 rfl ?_
      refine g_getr (r2 := 36) dX1_rank_60 fX1_9 rfl rfl ?_
      refine g_iload_n dX1_rank_63 rfl ?_
      obtain ⟨v2, h⟩ := h
      refine h_iald (μ.1 36 a2.toNatClampNeg) dX1_rank_64 rfl rfl v2 rfl ?_
      refine g_ineg dX1_rank_65 ?_
      exact g_iret dX1_rank_66 rfl rfl h
    · have h := h.2 q1
      by_cases q2 : (μ.1 11 a1.toNatClampNeg) = 2
      · have h := h.1 q2
        refine g_tin 67 2 dX1_rank_9 (by rw [q2]; decide) (by decide) rfl (by decide) ?_
        refine g_iload_n dX1_rank_67 rfl ?_
        refine g_aload_n dX1_rank_68 rfl ?_
        refine h_geti (μ.1 35 3) dX1_rank_69 fX1_33 rfl rfl rfl ?_
        refine g_icmp_le 79 dX1_rank_72 (by decide) (fun q => ?_) (fun q => ?_)
        · have h := h.1 q
          refine g_iload_n dX1_rank_79 rfl ?_
          refine g_bipush 7 dX1_rank_80 (by decide) ?_
          refine g_iadd dX1_rank_82 ?_
          exact g_iret dX1_rank_83 rfl rfl h
        · have h := h.2 q
          refine g_iload_n dX1_rank_75 rfl ?_
          refine g_goto 83 dX1_rank_76 (by decide) ?_
          exact g_iret dX1_rank_83 rfl rfl h
      · have h := h.2 q2
        have n0 := lv_neT (a := 0) q0 (by decide)
        have n1 := lv_neT (a := 1) q1 (by decide)
        have n2 := lv_neT (a := 2) q2 (by decide)
        refine g_tout 84 dX1_rank_9 (by omega) (by decide) ?_
        refine g_aload_n dX1_rank_84 rfl ?_
        refine g_getr (r2 := 36) dX1_rank_85 fX1_9 rfl rfl ?_
        refine g_iload_n dX1_rank_88 rfl ?_
        obtain ⟨v2, h⟩ := h
        refine h_iald (μ.1 36 a2.toNatClampNeg) dX1_rank_89 rfl rfl v2 rfl ?_
        refine g_aload_n dX1_rank_90 rfl ?_
        refine g_getr (r2 := 1) dX1_rank_91 fX1_15 rfl rfl ?_
        refine g_getr (r2 := 10) dX1_rank_94 fX1_58 rfl rfl ?_
        refine g_iload_n dX1_rank_97 rfl ?_
        refine h_iald (μ.1 10 a1.toNatClampNeg) dX1_rank_98 rfl rfl v1 rfl ?_
        refine g_icmp_lt 106 dX1_rank_99 (by decide) (fun q => ?_) (fun q => ?_)
        · have h := h.1 q
          refine g_iconst 1 dX1_rank_106 (by decide) ?_
          exact g_iret dX1_rank_107 rfl rfl h
        · have h := h.2 q
          refine g_iconst 0 dX1_rank_102 (by decide) ?_
          refine g_goto 107 dX1_rank_103 (by decide) ?_
          exact g_iret dX1_rank_107 rfl rfl h
set_option maxRecDepth 20000 in
theorem eX1_use {d : Nat} {Q : Option sAV → sM → Prop} {μ : sM} {a1 : Int32} {a2 : Int32} (h : sCl sLL mX1_bite d [sR 35, sI a1, sI a2] μ (kI fun r1 μ1 => (vp_in a2 7 ∧ Q (some (sI r1)) (s_u (s_u μ1 36 (a2.toNatClampNeg) ((μ1.1 36 a2.toNatClampNeg) - r1)) 35 3 a2)))) : sCl sLL mX1_use (d + 1) [sR 35, sI a1, sI a2] μ Q := by
  refine sG.loc (al2 := [some (sR 35), some (sI a1), some (sI a2), none]) (s_le_s (s_le_s (s_le_s (s_le_p s_le_0)))) ?_
  refine g_aload_n dX1_use_0 rfl ?_
  refine g_iload_n dX1_use_1 rfl ?_
  refine g_iload_n dX1_use_2 rfl ?_
  refine g_callVi (mi2 := mX1_bite) (r := 35) (st := []) [sI a1, sI a2] dX1_use_3 lX1_61 kX1_bite vX1_bite rfl rfl rfl (Nat.le_of_ble_eq_true rfl) (Nat.le_of_ble_eq_true rfl) (Nat.le_of_ble_eq_true rfl) rfl ?_
  refine sG.mono h (kI_mono fun r1 μ1 h => ?_)
  refine g_istore_n [some (sR 35), some (sI a1), some (sI a2), some (sI r1)] dX1_use_6 rfl (by decide) rfl ?_
  refine g_aload_n dX1_use_7 rfl ?_
  refine g_getr (r2 := 36) dX1_use_8 fX1_9 rfl rfl ?_
  refine g_iload_n dX1_use_11 rfl ?_
  refine g_dup2 dX1_use_12 ?_
  obtain ⟨v1, h⟩ := h
  refine h_iald (μ1.1 36 a2.toNatClampNeg) dX1_use_13 rfl rfl v1 rfl ?_
  refine g_iload_n dX1_use_14 rfl ?_
  refine g_isub dX1_use_15 ?_
  refine h_iast (a2.toNatClampNeg) dX1_use_16 rfl rfl v1 rfl ?_
  refine g_aload_n dX1_use_17 rfl ?_
  refine g_iload_n dX1_use_18 rfl ?_
  refine g_puti dX1_use_19 fX1_33 rfl rfl rfl rfl ?_
  refine g_iload_n dX1_use_22 rfl ?_
  exact g_iret dX1_use_23 rfl rfl h
set_option maxRecDepth 20000 in
theorem eX1_bite {d : Nat} {Q : Option sAV → sM → Prop} {μ : sM} {a1 : Int32} {a2 : Int32} (h : (vp_in a1 4 ∧ (vp_in a2 7 ∧ Q (some (sI (if (μ.1 36 a2.toNatClampNeg) < (μ.1 10 a1.toNatClampNeg) then (μ.1 36 a2.toNatClampNeg) else (μ.1 10 a1.toNatClampNeg)))) μ))) : sCl sLL mX1_bite (d + 1) [sR 35, sI a1, sI a2] μ Q := by
  refine sG.loc (al2 := [some (sR 35), some (sI a1), some (sI a2)]) (s_le_s (s_le_s (s_le_s s_le_0))) ?_
  refine g_aload_n dX1_bite_0 rfl ?_
  refine g_getr (r2 := 1) dX1_bite_1 fX1_15 rfl rfl ?_
  refine g_getr (r2 := 10) dX1_bite_4 fX1_58 rfl rfl ?_
  refine g_iload_n dX1_bite_7 rfl ?_
  obtain ⟨v1, h⟩ := h
  refine h_iald (μ.1 10 a1.toNatClampNeg) dX1_bite_8 rfl rfl v1 rfl ?_
  refine g_aload_n dX1_bite_9 rfl ?_
  refine g_getr (r2 := 36) dX1_bite_10 fX1_9 rfl rfl ?_
  refine g_iload_n dX1_bite_13 rfl ?_
  obtain ⟨v2, h⟩ := h
  refine h_iald (μ.1 36 a2.toNatClampNeg) dX1_bite_14 rfl rfl v2 rfl ?_
  refine g_mmin dX1_bite_15 lX1_64 (Nat.le_of_ble_eq_true rfl) ?_
  exact g_iret dX1_bite_18 rfl rfl h
set_option maxRecDepth 20000 in
theorem eX1_stillToEata {d : Nat} {Q : Option sAV → sM → Prop} {μ : sM} (h : sG sLL mX1_stillToEat d Q 4 [some (sR 35), some (sR 44), some (sI 0), some (sI 0)] [] μ) : sCl sLL mX1_stillToEat d [sR 35, sR 44] μ Q := by
  refine sG.loc (al2 := [some (sR 35), some (sR 44), none, none]) (s_le_s (s_le_s (s_le_p (s_le_p s_le_0)))) ?_
  refine g_iconst 0 dX1_stillToEat_0 (by decide) ?_
  refine g_istore_n [some (sR 35), some (sR 44), some (sI 0), none] dX1_stillToEat_1 rfl (by decide) rfl ?_
  refine g_iconst 0 dX1_stillToEat_2 (by decide) ?_
  refine g_istore_n [some (sR 35), some (sR 44), some (sI 0), some (sI 0)] dX1_stillToEat_3 rfl (by decide) rfl ?_
  exact sG.loc (s_le_s (s_le_s (s_le_s (s_le_s s_le_0)))) h
set_option maxRecDepth 20000 in
theorem sX1_stillToEata_4 {d : Nat} {Q : Option sAV → sM → Prop} {μ : sM} {x2 : Int32} {x3 : Int32} (h : (((μ.1 1 0) ≤ x3 → Q (some (sI x2)) μ) ∧ (¬ (μ.1 1 0) ≤ x3 → (vp_in x3 7 ∧ ((¬ (μ.1 44 x3.toNatClampNeg) = (-6) → (((μ.1 44 x3.toNatClampNeg) ≤ (μ.1 36 x3.toNatClampNeg) → sG sLL mX1_stillToEat d Q 4 [some (sR 35), some (sR 44), some (sI (x2 + ((μ.1 36 x3.toNatClampNeg) - (μ.1 44 x3.toNatClampNeg)))), some (sI (x3 + 1))] [] μ) ∧ (¬ (μ.1 44 x3.toNatClampNeg) ≤ (μ.1 36 x3.toNatClampNeg) → Q (some (sI (-6))) μ))) ∧ ((μ.1 44 x3.toNatClampNeg) = (-6) → sG sLL mX1_stillToEat d Q 4 [some (sR 35), some (sR 44), some (sI x2), some (sI (x3 + 1))] [] μ)))))) : sG sLL mX1_stillToEat d Q 4 [some (sR 35), some (sR 44), some (sI x2), some (sI x3)] [] μ := by
  refine g_iload_n dX1_stillToEat_4 rfl ?_
  refine g_aload_n dX1_stillToEat_5 rfl ?_
  refine g_getr (r2 := 1) dX1_stillToEat_6 fX1_15 rfl rfl ?_
  refine h_geti (μ.1 1 0) dX1_stillToEat_9 fX1_36 rfl rfl rfl ?_
  refine g_icmp_ge 60 dX1_stillToEat_12 (by decide) (fun q => ?_) (fun q => ?_)
  · have h := h.1 q
    refine g_iload_n dX1_stillToEat_60 rfl ?_
    exact g_iret dX1_stillToEat_61 rfl rfl h
  · have h := h.2 q
    refine g_aload_n dX1_stillToEat_15 rfl ?_
    refine g_iload_n dX1_stillToEat_16 rfl ?_
    obtain ⟨v1, h⟩ := h
    refine h_iald (μ.1 44 x3.toNatClampNeg) dX1_stillToEat_17 rfl rfl v1 rfl ?_
    refine g_bipush (-6) dX1_stillToEat_18 (by decide) ?_
    refine g_icmp_ne 26 dX1_stillToEat_20 (by decide) (fun q => ?_) (fun q => ?_)
    · have h := h.1 q
      refine g_aload_n dX1_stillToEat_26 rfl ?_
      refine g_getr (r2 := 36) dX1_stillToEat_27 fX1_9 rfl rfl ?_
      refine g_iload_n dX1_stillToEat_30 rfl ?_
      refine h_iald (μ.1 36 x3.toNatClampNeg) dX1_stillToEat_31 rfl rfl v1 rfl ?_
      refine g_aload_n dX1_stillToEat_32 rfl ?_
      refine g_iload_n dX1_stillToEat_33 rfl ?_
      refine h_iald (μ.1 44 x3.toNatClampNeg) dX1_stillToEat_34 rfl rfl v1 rfl ?_
      refine g_icmp_ge 41 dX1_stillToEat_35 (by decide) (fun q => ?_) (fun q => ?_)
      · have h := h.1 q
        refine g_iload_n dX1_stillToEat_41 rfl ?_
        refine g_aload_n dX1_stillToEat_42 rfl ?_
        refine g_getr (r2 := 36) dX1_stillToEat_43 fX1_9 rfl rfl ?_
        refine g_iload_n dX1_stillToEat_46 rfl ?_
        refine h_iald (μ.1 36 x3.toNatClampNeg) dX1_stillToEat_47 rfl rfl v1 rfl ?_
        refine g_aload_n dX1_stillToEat_48 rfl ?_
        refine g_iload_n dX1_stillToEat_49 rfl ?_
        refine h_iald (μ.1 44 x3.toNatClampNeg) dX1_stillToEat_50 rfl rfl v1 rfl ?_
        refine g_isub dX1_stillToEat_51 ?_
        refine g_iadd dX1_stillToEat_52 ?_
        refine g_istore_n [some (sR 35), some (sR 44), some (sI (x2 + ((μ.1 36 x3.toNatClampNeg) - (μ.1 44 x3.toNatClampNeg)))), some (sI x3)] dX1_stillToEat_53 rfl (by decide) rfl ?_
        refine g_iinc (x3 + 1) [some (sR 35), some (sR 44), some (sI (x2 + ((μ.1 36 x3.toNatClampNeg) - (μ.1 44 x3.toNatClampNeg)))), some (sI (x3 + 1))] dX1_stillToEat_54 rfl rfl (by decide) rfl ?_
        refine g_goto 4 dX1_stillToEat_57 (by decide) ?_
        exact sG.loc (s_le_s (s_le_s (s_le_s (s_le_s s_le_0)))) h
      · have h := h.2 q
        refine g_bipush (-6) dX1_stillToEat_38 (by decide) ?_
        exact g_iret dX1_stillToEat_40 rfl rfl h
    · have h := h.2 q
      refine g_goto 54 dX1_stillToEat_23 (by decide) ?_
      refine g_iinc (x3 + 1) [some (sR 35), some (sR 44), some (sI x2), some (sI (x3 + 1))] dX1_stillToEat_54 rfl rfl (by decide) rfl ?_
      refine g_goto 4 dX1_stillToEat_57 (by decide) ?_
      exact sG.loc (s_le_s (s_le_s (s_le_s (s_le_s s_le_0)))) h
set_option maxRecDepth 20000 in
theorem eX1_stillToEatb {d : Nat} {Q : Option sAV → sM → Prop} {μ : sM} (h : sG sLL mX1_stillToEat d Q 4 [some (sR 35), some (sR 8), some (sI 0), some (sI 0)] [] μ) : sCl sLL mX1_stillToEat d [sR 35, sR 8] μ Q := by
  refine sG.loc (al2 := [some (sR 35), some (sR 8), none, none]) (s_le_s (s_le_s (s_le_p (s_le_p s_le_0)))) ?_
  refine g_iconst 0 dX1_stillToEat_0 (by decide) ?_
  refine g_istore_n [some (sR 35), some (sR 8), some (sI 0), none] dX1_stillToEat_1 rfl (by decide) rfl ?_
  refine g_iconst 0 dX1_stillToEat_2 (by decide) ?_
  refine g_istore_n [some (sR 35), some (sR 8), some (sI 0), some (sI 0)] dX1_stillToEat_3 rfl (by decide) rfl ?_
  exact sG.loc (s_le_s (s_le_s (s_le_s (s_le_s s_le_0)))) h
set_option maxRecDepth 20000 in
theorem sX1_stillToEatb_4 {d : Nat} {Q : Option sAV → sM → Prop} {μ : sM} {x2 : Int32} {x3 : Int32} (h : (((μ.1 1 0) ≤ x3 → Q (some (sI x2)) μ) ∧ (¬ (μ.1 1 0) ≤ x3 → (vp_in x3 7 ∧ ((¬ (μ.1 8 x3.toNatClampNeg) = (-6) → (((μ.1 8 x3.toNatClampNeg) ≤ (μ.1 36 x3.toNatClampNeg) → sG sLL mX1_stillToEat d Q 4 [some (sR 35), some (sR 8), some (sI (x2 + ((μ.1 36 x3.toNatClampNeg) - (μ.1 8 x3.toNatClampNeg)))), some (sI (x3 + 1))] [] μ) ∧ (¬ (μ.1 8 x3.toNatClampNeg) ≤ (μ.1 36 x3.toNatClampNeg) → Q (some (sI (-6))) μ))) ∧ ((μ.1 8 x3.toNatClampNeg) = (-6) → sG sLL mX1_stillToEat d Q 4 [some (sR 35), some (sR 8), some (sI x2), some (sI (x3 + 1))] [] μ)))))) : sG sLL mX1_stillToEat d Q 4 [some (sR 35), some (sR 8), some (sI x2), some (sI x3)] [] μ := by
  refine g_iload_n dX1_stillToEat_4 rfl ?_
  refine g_aload_n dX1_stillToEat_5 rfl ?_
  refine g_getr (r2 := 1) dX1_stillToEat_6 fX1_15 rfl rfl ?_
  refine h_geti (μ.1 1 0) dX1_stillToEat_9 fX1_36 rfl rfl rfl ?_
  refine g_icmp_ge 60 dX1_stillToEat_12 (by decide) (fun q => ?_) (fun q => ?_)
  · have h := h.1 q
    refine g_iload_n dX1_stillToEat_60 rfl ?_
    exact g_iret dX1_stillToEat_61 rfl rfl h
  · have h := h.2 q
    refine g_aload_n dX1_stillToEat_15 rfl ?_
    refine g_iload_n dX1_stillToEat_16 rfl ?_
    obtain ⟨v1, h⟩ := h
    refine h_iald (μ.1 8 x3.toNatClampNeg) dX1_stillToEat_17 rfl rfl v1 rfl ?_
    refine g_bipush (-6) dX1_stillToEat_18 (by decide) ?_
    refine g_icmp_ne 26 dX1_stillToEat_20 (by decide) (fun q => ?_) (fun q => ?_)
    · have h := h.1 q
      refine g_aload_n dX1_stillToEat_26 rfl ?_
      refine g_getr (r2 := 36) dX1_stillToEat_27 fX1_9 rfl rfl ?_
      refine g_iload_n dX1_stillToEat_30 rfl ?_
      refine h_iald (μ.1 36 x3.toNatClampNeg) dX1_stillToEat_31 rfl rfl v1 rfl ?_
      refine g_aload_n dX1_stillToEat_32 rfl ?_
      refine g_iload_n dX1_stillToEat_33 rfl ?_
      refine h_iald (μ.1 8 x3.toNatClampNeg) dX1_stillToEat_34 rfl rfl v1 rfl ?_
      refine g_icmp_ge 41 dX1_stillToEat_35 (by decide) (fun q => ?_) (fun q => ?_)
      · have h := h.1 q
        refine g_iload_n dX1_stillToEat_41 rfl ?_
        refine g_aload_n dX1_stillToEat_42 rfl ?_
        refine g_getr (r2 := 36) dX1_stillToEat_43 fX1_9 rfl rfl ?_
        refine g_iload_n dX1_stillToEat_46 rfl ?_
        refine h_iald (μ.1 36 x3.toNatClampNeg) dX1_stillToEat_47 rfl rfl v1 rfl ?_
        refine g_aload_n dX1_stillToEat_48 rfl ?_
        refine g_iload_n dX1_stillToEat_49 rfl ?_
        refine h_iald (μ.1 8 x3.toNatClampNeg) dX1_stillToEat_50 rfl rfl v1 rfl ?_
        refine g_isub dX1_stillToEat_51 ?_
        refine g_iadd dX1_stillToEat_52 ?_
        refine g_istore_n [some (sR 35), some (sR 8), some (sI (x2 + ((μ.1 36 x3.toNatClampNeg) - (μ.1 8 x3.toNatClampNeg)))), some (sI x3)] dX1_stillToEat_53 rfl (by decide) rfl ?_
        refine g_iinc (x3 + 1) [some (sR 35), some (sR 8), some (sI (x2 + ((μ.1 36 x3.toNatClampNeg) - (μ.1 8 x3.toNatClampNeg)))), some (sI (x3 + 1))] dX1_stillToEat_54 rfl rfl (by decide) rfl ?_
        refine g_goto 4 dX1_stillToEat_57 (by decide) ?_
        exact sG.loc (s_le_s (s_le_s (s_le_s (s_le_s s_le_0)))) h
      · have h := h.2 q
        refine g_bipush (-6) dX1_stillToEat_38 (by decide) ?_
        exact g_iret dX1_stillToEat_40 rfl rfl h
    · have h := h.2 q
      refine g_goto 54 dX1_stillToEat_23 (by decide) ?_
      refine g_iinc (x3 + 1) [some (sR 35), some (sR 8), some (sI x2), some (sI (x3 + 1))] dX1_stillToEat_54 rfl rfl (by decide) rfl ?_
      refine g_goto 4 dX1_stillToEat_57 (by decide) ?_
      exact sG.loc (s_le_s (s_le_s (s_le_s (s_le_s s_le_0)))) h
set_option maxRecDepth 20000 in
theorem eX1_takeBack {d : Nat} {Q : Option sAV → sM → Prop} {μ : sM} {a1 : Int32} {a2 : Int32} {a3 : Int32} (h : (vp_in a1 7 ∧ Q none (s_u (s_u μ 36 (a1.toNatClampNeg) ((μ.1 36 a1.toNatClampNeg) + a2)) 35 3 a3))) : sCl sLL mX1_takeBack d [sR 35, sI a1, sI a2, sI a3] μ Q := by
  refine sG.loc (al2 := [some (sR 35), some (sI a1), some (sI a2), some (sI a3)]) (s_le_s (s_le_s (s_le_s (s_le_s s_le_0)))) ?_
  refine g_aload_n dX1_takeBack_0 rfl ?_
  refine g_getr (r2 := 36) dX1_takeBack_1 fX1_9 rfl rfl ?_
  refine g_iload_n dX1_takeBack_4 rfl ?_
  refine g_dup2 dX1_takeBack_5 ?_
  obtain ⟨v1, h⟩ := h
  refine h_iald (μ.1 36 a1.toNatClampNeg) dX1_takeBack_6 rfl rfl v1 rfl ?_
  refine g_iload_n dX1_takeBack_7 rfl ?_
  refine g_iadd dX1_takeBack_8 ?_
  refine h_iast (a1.toNatClampNeg) dX1_takeBack_9 rfl rfl v1 rfl ?_
  refine g_aload_n dX1_takeBack_10 rfl ?_
  refine g_iload_n dX1_takeBack_11 rfl ?_
  refine g_puti dX1_takeBack_12 fX1_33 rfl rfl rfl rfl ?_
  exact g_vret dX1_takeBack_15 rfl h
set_option maxRecDepth 20000 in
theorem eX1_visit {d : Nat} {Q : Option sAV → sM → Prop} {μ : sM} {a1 : Int32} (h : sCl sLL mX6_hasGuest d [sR 1, sI a1] μ (kI fun r1 μ1 => ((¬ r1 = 0 → sCl sLL mX1_choice d [sR 35, sI a1] μ1 (kI fun r2 μ2 => ((¬ r2 = (-6) → sCl sLL mX1_use d [sR 35, sI a1, sI r2] μ2 (kI fun r3 μ3 => Q (some (sI r3)) μ3)) ∧ (r2 = (-6) → Q (some (sI 0)) μ2)))) ∧ (r1 = 0 → Q (some (sI 0)) μ1)))) : sCl sLL mX1_visit (d + 1) [sR 35, sI a1] μ Q := by
  refine sG.loc (al2 := [some (sR 35), some (sI a1), none]) (s_le_s (s_le_s (s_le_p s_le_0))) ?_
  refine g_aload_n dX1_visit_0 rfl ?_
  refine g_getr (r2 := 1) dX1_visit_1 fX1_15 rfl rfl ?_
  refine g_iload_n dX1_visit_4 rfl ?_
  refine g_callVi (mi2 := mX6_hasGuest) (r := 1) (st := []) [sI a1] dX1_visit_5 lX1_67 kX6_hasGuest vX6_hasGuest rfl rfl rfl (Nat.le_of_ble_eq_true rfl) (Nat.le_of_ble_eq_true rfl) (Nat.le_of_ble_eq_true rfl) rfl ?_
  refine sG.mono h (kI_mono fun r1 μ1 h => ?_)
  refine g_if_ne 13 dX1_visit_8 (by decide) (fun q => ?_) (fun q => ?_)
  · have h := h.1 q
    refine g_aload_n dX1_visit_13 rfl ?_
    refine g_iload_n dX1_visit_14 rfl ?_
    refine g_callVi (mi2 := mX1_choice) (r := 35) (st := []) [sI a1] dX1_visit_15 lX1_71 kX1_choice vX1_choice rfl rfl rfl (Nat.le_of_ble_eq_true rfl) (Nat.le_of_ble_eq_true rfl) (Nat.le_of_ble_eq_true rfl) rfl ?_
    refine sG.mono h (kI_mono fun r2 μ2 h => ?_)
    refine g_istore_n [some (sR 35), some (sI a1), some (sI r2)] dX1_visit_18 rfl (by decide) rfl ?_
    refine g_iload_n dX1_visit_19 rfl ?_
    refine g_bipush (-6) dX1_visit_20 (by decide) ?_
    refine g_icmp_ne 29 dX1_visit_22 (by decide) (fun q => ?_) (fun q => ?_)
    · have h := h.1 q
      refine g_aload_n dX1_visit_29 rfl ?_
      refine g_iload_n dX1_visit_30 rfl ?_
      refine g_iload_n dX1_visit_31 rfl ?_
      refine g_callVi (mi2 := mX1_use) (r := 35) (st := []) [sI a1, sI r2] dX1_visit_32 lX1_74 kX1_use vX1_use rfl rfl rfl (Nat.le_of_ble_eq_true rfl) (Nat.le_of_ble_eq_true rfl) (Nat.le_of_ble_eq_true rfl) rfl ?_
      refine sG.mono h (kI_mono fun r3 μ3 h => ?_)
      exact g_iret dX1_visit_35 rfl rfl h
    · have h := h.2 q
      refine g_iconst 0 dX1_visit_25 (by decide) ?_
      refine g_goto 35 dX1_visit_26 (by decide) ?_
      exact g_iret dX1_visit_35 rfl rfl h
  · have h := h.2 q
    refine g_iconst 0 dX1_visit_11 (by decide) ?_
    exact g_iret dX1_visit_12 rfl rfl h
set_option maxRecDepth 20000 in
theorem eX1_asNumber {d : Nat} {Q : Option sAV → sM → Prop} {μ : sM} (h : sG sLL mX1_asNumber d Q 4 [some (sR 35), some (sI 0), some (sI 0)] [] μ) : sCl sLL mX1_asNumber d [sR 35] μ Q := by
  refine sG.loc (al2 := [some (sR 35), none, none]) (s_le_s (s_le_p (s_le_p s_le_0))) ?_
  refine g_iconst 0 dX1_asNumber_0 (by decide) ?_
  refine g_istore_n [some (sR 35), some (sI 0), none] dX1_asNumber_1 rfl (by decide) rfl ?_
  refine g_iconst 0 dX1_asNumber_2 (by decide) ?_
  refine g_istore_n [some (sR 35), some (sI 0), some (sI 0)] dX1_asNumber_3 rfl (by decide) rfl ?_
  exact sG.loc (s_le_s (s_le_s (s_le_s s_le_0))) h
set_option maxRecDepth 20000 in
theorem sX1_asNumber_4 {d : Nat} {Q : Option sAV → sM → Prop} {μ : sM} {x1 : Int32} {x2 : Int32} (h : (((μ.1 1 0) ≤ x2 → Q (some (sI x1)) μ) ∧ (¬ (μ.1 1 0) ≤ x2 → (vp_in x2 7 ∧ sG sLL mX1_asNumber d Q 4 [some (sR 35), some (sI ((10 * x1) + (μ.1 36 x2.toNatClampNeg))), some (sI (x2 + 1))] [] μ)))) : sG sLL mX1_asNumber d Q 4 [some (sR 35), some (sI x1), some (sI x2)] [] μ := by
  refine g_iload_n dX1_asNumber_4 rfl ?_
  refine g_aload_n dX1_asNumber_5 rfl ?_
  refine g_getr (r2 := 1) dX1_asNumber_6 fX1_15 rfl rfl ?_
  refine h_geti (μ.1 1 0) dX1_asNumber_9 fX1_36 rfl rfl rfl ?_
  refine g_icmp_ge 33 dX1_asNumber_12 (by decide) (fun q => ?_) (fun q => ?_)
  · have h := h.1 q
    refine g_iload_n dX1_asNumber_33 rfl ?_
    exact g_iret dX1_asNumber_34 rfl rfl h
  · have h := h.2 q
    refine g_bipush 10 dX1_asNumber_15 (by decide) ?_
    refine g_iload_n dX1_asNumber_17 rfl ?_
    refine g_imul dX1_asNumber_18 ?_
    refine g_aload_n dX1_asNumber_19 rfl ?_
    refine g_getr (r2 := 36) dX1_asNumber_20 fX1_9 rfl rfl ?_
    refine g_iload_n dX1_asNumber_23 rfl ?_
    obtain ⟨v1, h⟩ := h
    refine h_iald (μ.1 36 x2.toNatClampNeg) dX1_asNumber_24 rfl rfl v1 rfl ?_
    refine g_iadd dX1_asNumber_25 ?_
    refine g_istore_n [some (sR 35), some (sI ((10 * x1) + (μ.1 36 x2.toNatClampNeg))), some (sI x2)] dX1_asNumber_26 rfl (by decide) rfl ?_
    refine g_iinc (x2 + 1) [some (sR 35), some (sI ((10 * x1) + (μ.1 36 x2.toNatClampNeg))), some (sI (x2 + 1))] dX1_asNumber_27 rfl rfl (by decide) rfl ?_
    refine g_goto 4 dX1_asNumber_30 (by decide) ?_
    exact sG.loc (s_le_s (s_le_s (s_le_s s_le_0))) h
end
