-- the tables' words; the multianewarray row; names
/-- a private method of a class that the tables say can be made, by its rows of tables_1 -/
def lw_okq (q : MethodName × Nat) : Prop := (q.1.cls ≠ "java/lang/invoke/MethodHandle" ∧ q.1.cls ≠ "java/lang/invoke/VarHandle") ∧ Cond.instantiable q.1.cls q.2 ∈ tables_1 ∧ Cond.privateMethod q.1 ∈ tables_1 ∧ Cond.instanceMethod q.1 ∈ tables_1
theorem lw_p0 : lw_okq (⟨"SevenPlates$Table", "asAtFirst", "(I)V"⟩, 12) := ⟨⟨by decide +kernel, by decide +kernel⟩, List.mem_of_getElem? (i := 24) (by decide +kernel), List.mem_of_getElem? (i := 30) (by decide +kernel), List.mem_of_getElem? (i := 31) (by decide +kernel)⟩
theorem lw_p1 : lw_okq (⟨"SevenPlates$Table", "hasThing", "(I)Z"⟩, 12) := ⟨⟨by decide +kernel, by decide +kernel⟩, List.mem_of_getElem? (i := 24) (by decide +kernel), List.mem_of_getElem? (i := 334) (by decide +kernel), List.mem_of_getElem? (i := 335) (by decide +kernel)⟩
theorem lw_p2 : lw_okq (⟨"SevenPlates$Table", "ofThing", "(II)I"⟩, 12) := ⟨⟨by decide +kernel, by decide +kernel⟩, List.mem_of_getElem? (i := 24) (by decide +kernel), List.mem_of_getElem? (i := 338) (by decide +kernel), List.mem_of_getElem? (i := 339) (by decide +kernel)⟩
theorem lw_p3 : lw_okq (⟨"SevenPlates$Table", "change", "(III)V"⟩, 12) := ⟨⟨by decide +kernel, by decide +kernel⟩, List.mem_of_getElem? (i := 24) (by decide +kernel), List.mem_of_getElem? (i := 342) (by decide +kernel), List.mem_of_getElem? (i := 343) (by decide +kernel)⟩
theorem lw_p4 : lw_okq (⟨"SevenPlates$Table", "welcome", "(IIIII)V"⟩, 12) := ⟨⟨by decide +kernel, by decide +kernel⟩, List.mem_of_getElem? (i := 24) (by decide +kernel), List.mem_of_getElem? (i := 350) (by decide +kernel), List.mem_of_getElem? (i := 351) (by decide +kernel)⟩
theorem lw_p5 : lw_okq (⟨"SevenPlates$Table", "hasGuest", "(I)Z"⟩, 12) := ⟨⟨by decide +kernel, by decide +kernel⟩, List.mem_of_getElem? (i := 24) (by decide +kernel), List.mem_of_getElem? (i := 364) (by decide +kernel), List.mem_of_getElem? (i := 365) (by decide +kernel)⟩
theorem lw_p6 : lw_okq (⟨"SevenPlates$Pad", "add", "(I)I"⟩, 2) := ⟨⟨by decide +kernel, by decide +kernel⟩, List.mem_of_getElem? (i := 97) (by decide +kernel), List.mem_of_getElem? (i := 372) (by decide +kernel), List.mem_of_getElem? (i := 373) (by decide +kernel)⟩
theorem lw_p7 : lw_okq (⟨"SevenPlates$Pad", "firstFault", "(I)I"⟩, 2) := ⟨⟨by decide +kernel, by decide +kernel⟩, List.mem_of_getElem? (i := 97) (by decide +kernel), List.mem_of_getElem? (i := 384) (by decide +kernel), List.mem_of_getElem? (i := 385) (by decide +kernel)⟩
theorem lw_p8 : lw_okq (⟨"SevenPlates", "runEvening", "()I"⟩, 10) := ⟨⟨by decide +kernel, by decide +kernel⟩, List.mem_of_getElem? (i := 16) (by decide +kernel), List.mem_of_getElem? (i := 398) (by decide +kernel), List.mem_of_getElem? (i := 399) (by decide +kernel)⟩
theorem lw_p9 : lw_okq (⟨"SevenPlates$Evening", "run", "(LSevenPlates$Pad;)V"⟩, 11) := ⟨⟨by decide +kernel, by decide +kernel⟩, List.mem_of_getElem? (i := 142) (by decide +kernel), List.mem_of_getElem? (i := 402) (by decide +kernel), List.mem_of_getElem? (i := 403) (by decide +kernel)⟩
theorem lw_p10 : lw_okq (⟨"SevenPlates$Evening", "begin", "()V"⟩, 11) := ⟨⟨by decide +kernel, by decide +kernel⟩, List.mem_of_getElem? (i := 142) (by decide +kernel), List.mem_of_getElem? (i := 406) (by decide +kernel), List.mem_of_getElem? (i := 407) (by decide +kernel)⟩
theorem lw_p11 : lw_okq (⟨"SevenPlates$Course", "begin", "()V"⟩, 4) := ⟨⟨by decide +kernel, by decide +kernel⟩, List.mem_of_getElem? (i := 114) (by decide +kernel), List.mem_of_getElem? (i := 410) (by decide +kernel), List.mem_of_getElem? (i := 411) (by decide +kernel)⟩
theorem lw_p12 : lw_okq (⟨"SevenPlates$Evening", "comes", "(II)V"⟩, 11) := ⟨⟨by decide +kernel, by decide +kernel⟩, List.mem_of_getElem? (i := 142) (by decide +kernel), List.mem_of_getElem? (i := 420) (by decide +kernel), List.mem_of_getElem? (i := 421) (by decide +kernel)⟩
theorem lw_p13 : lw_okq (⟨"SevenPlates$Evening", "fail", "(II)V"⟩, 11) := ⟨⟨by decide +kernel, by decide +kernel⟩, List.mem_of_getElem? (i := 142) (by decide +kernel), List.mem_of_getElem? (i := 425) (by decide +kernel), List.mem_of_getElem? (i := 426) (by decide +kernel)⟩
theorem lw_p14 : lw_okq (⟨"SevenPlates$Course", "choice", "(I)I"⟩, 4) := ⟨⟨by decide +kernel, by decide +kernel⟩, List.mem_of_getElem? (i := 114) (by decide +kernel), List.mem_of_getElem? (i := 429) (by decide +kernel), List.mem_of_getElem? (i := 430) (by decide +kernel)⟩
theorem lw_p15 : lw_okq (⟨"SevenPlates$Course", "rank", "(II)I"⟩, 4) := ⟨⟨by decide +kernel, by decide +kernel⟩, List.mem_of_getElem? (i := 114) (by decide +kernel), List.mem_of_getElem? (i := 433) (by decide +kernel), List.mem_of_getElem? (i := 434) (by decide +kernel)⟩
def lw_privs_1 : List (MethodName × Nat) := [(⟨"SevenPlates$Table", "asAtFirst", "(I)V"⟩, 12), (⟨"SevenPlates$Table", "hasThing", "(I)Z"⟩, 12), (⟨"SevenPlates$Table", "ofThing", "(II)I"⟩, 12), (⟨"SevenPlates$Table", "change", "(III)V"⟩, 12), (⟨"SevenPlates$Table", "welcome", "(IIIII)V"⟩, 12), (⟨"SevenPlates$Table", "hasGuest", "(I)Z"⟩, 12), (⟨"SevenPlates$Pad", "add", "(I)I"⟩, 2), (⟨"SevenPlates$Pad", "firstFault", "(I)I"⟩, 2), (⟨"SevenPlates", "runEvening", "()I"⟩, 10), (⟨"SevenPlates$Evening", "run", "(LSevenPlates$Pad;)V"⟩, 11), (⟨"SevenPlates$Evening", "begin", "()V"⟩, 11), (⟨"SevenPlates$Course", "begin", "()V"⟩, 4), (⟨"SevenPlates$Evening", "comes", "(II)V"⟩, 11), (⟨"SevenPlates$Evening", "fail", "(II)V"⟩, 11), (⟨"SevenPlates$Course", "choice", "(I)I"⟩, 4), (⟨"SevenPlates$Course", "rank", "(II)I"⟩, 4)]
theorem lw_r1 : ∀ q ∈ lw_privs_1, lw_okq q := List.forall_mem_cons.mpr ⟨lw_p0, List.forall_mem_cons.mpr ⟨lw_p1, List.forall_mem_cons.mpr ⟨lw_p2, List.forall_mem_cons.mpr ⟨lw_p3, List.forall_mem_cons.mpr ⟨lw_p4, List.forall_mem_cons.mpr ⟨lw_p5, List.forall_mem_cons.mpr ⟨lw_p6, List.forall_mem_cons.mpr ⟨lw_p7, List.forall_mem_cons.mpr ⟨lw_p8, List.forall_mem_cons.mpr ⟨lw_p9, List.forall_mem_cons.mpr ⟨lw_p10, List.forall_mem_cons.mpr ⟨lw_p11, List.forall_mem_cons.mpr ⟨lw_p12, List.forall_mem_cons.mpr ⟨lw_p13, List.forall_mem_cons.mpr ⟨lw_p14, List.forall_mem_cons.mpr ⟨lw_p15, fun _ h => absurd h List.not_mem_nil⟩⟩⟩⟩⟩⟩⟩⟩⟩⟩⟩⟩⟩⟩⟩⟩
theorem lw_p16 : lw_okq (⟨"SevenPlates$Course", "use", "(II)I"⟩, 4) := ⟨⟨by decide +kernel, by decide +kernel⟩, List.mem_of_getElem? (i := 114) (by decide +kernel), List.mem_of_getElem? (i := 440) (by decide +kernel), List.mem_of_getElem? (i := 441) (by decide +kernel)⟩
theorem lw_p17 : lw_okq (⟨"SevenPlates$Course", "bite", "(II)I"⟩, 4) := ⟨⟨by decide +kernel, by decide +kernel⟩, List.mem_of_getElem? (i := 114) (by decide +kernel), List.mem_of_getElem? (i := 444) (by decide +kernel), List.mem_of_getElem? (i := 445) (by decide +kernel)⟩
theorem lw_p18 : lw_okq (⟨"SevenPlates$Evening", "cool", "()V"⟩, 11) := ⟨⟨by decide +kernel, by decide +kernel⟩, List.mem_of_getElem? (i := 142) (by decide +kernel), List.mem_of_getElem? (i := 451) (by decide +kernel), List.mem_of_getElem? (i := 452) (by decide +kernel)⟩
theorem lw_p19 : lw_okq (⟨"SevenPlates$Evening", "fill", "(I)V"⟩, 11) := ⟨⟨by decide +kernel, by decide +kernel⟩, List.mem_of_getElem? (i := 142) (by decide +kernel), List.mem_of_getElem? (i := 458) (by decide +kernel), List.mem_of_getElem? (i := 459) (by decide +kernel)⟩
theorem lw_p20 : lw_okq (⟨"SevenPlates$Table", "sightBits", "()I"⟩, 12) := ⟨⟨by decide +kernel, by decide +kernel⟩, List.mem_of_getElem? (i := 24) (by decide +kernel), List.mem_of_getElem? (i := 490) (by decide +kernel), List.mem_of_getElem? (i := 491) (by decide +kernel)⟩
theorem lw_p21 : lw_okq (⟨"SevenPlates$Rows", "gather", "([II)V"⟩, 12) := ⟨⟨by decide +kernel, by decide +kernel⟩, List.mem_of_getElem? (i := 191) (by decide +kernel), List.mem_of_getElem? (i := 506) (by decide +kernel), List.mem_of_getElem? (i := 507) (by decide +kernel)⟩
theorem lw_p22 : lw_okq (⟨"SevenPlates$Rows", "walk", "(III)V"⟩, 12) := ⟨⟨by decide +kernel, by decide +kernel⟩, List.mem_of_getElem? (i := 191) (by decide +kernel), List.mem_of_getElem? (i := 514) (by decide +kernel), List.mem_of_getElem? (i := 515) (by decide +kernel)⟩
theorem lw_p23 : lw_okq (⟨"SevenPlates$Course", "stillToEat", "([I)I"⟩, 4) := ⟨⟨by decide +kernel, by decide +kernel⟩, List.mem_of_getElem? (i := 114) (by decide +kernel), List.mem_of_getElem? (i := 518) (by decide +kernel), List.mem_of_getElem? (i := 519) (by decide +kernel)⟩
theorem lw_p24 : lw_okq (⟨"SevenPlates$Rows", "note", "(II)V"⟩, 12) := ⟨⟨by decide +kernel, by decide +kernel⟩, List.mem_of_getElem? (i := 191) (by decide +kernel), List.mem_of_getElem? (i := 522) (by decide +kernel), List.mem_of_getElem? (i := 523) (by decide +kernel)⟩
theorem lw_p25 : lw_okq (⟨"SevenPlates$Course", "takeBack", "(III)V"⟩, 4) := ⟨⟨by decide +kernel, by decide +kernel⟩, List.mem_of_getElem? (i := 114) (by decide +kernel), List.mem_of_getElem? (i := 529) (by decide +kernel), List.mem_of_getElem? (i := 530) (by decide +kernel)⟩
theorem lw_p26 : lw_okq (⟨"SevenPlates$Rows", "atPlace", "(I)I"⟩, 12) := ⟨⟨by decide +kernel, by decide +kernel⟩, List.mem_of_getElem? (i := 191) (by decide +kernel), List.mem_of_getElem? (i := 533) (by decide +kernel), List.mem_of_getElem? (i := 534) (by decide +kernel)⟩
theorem lw_p27 : lw_okq (⟨"SevenPlates$Rows", "bestToLookAt", "()I"⟩, 12) := ⟨⟨by decide +kernel, by decide +kernel⟩, List.mem_of_getElem? (i := 191) (by decide +kernel), List.mem_of_getElem? (i := 545) (by decide +kernel), List.mem_of_getElem? (i := 546) (by decide +kernel)⟩
theorem lw_p28 : lw_okq (⟨"SevenPlates$Rows", "mostLeftOver", "(I)I"⟩, 12) := ⟨⟨by decide +kernel, by decide +kernel⟩, List.mem_of_getElem? (i := 191) (by decide +kernel), List.mem_of_getElem? (i := 549) (by decide +kernel), List.mem_of_getElem? (i := 550) (by decide +kernel)⟩
theorem lw_p29 : lw_okq (⟨"SevenPlates$Beliefs", "weigh", "(II)V"⟩, 4) := ⟨⟨by decide +kernel, by decide +kernel⟩, List.mem_of_getElem? (i := 241) (by decide +kernel), List.mem_of_getElem? (i := 562) (by decide +kernel), List.mem_of_getElem? (i := 563) (by decide +kernel)⟩
theorem lw_p30 : lw_okq (⟨"SevenPlates$Beliefs", "ways", "(II)J"⟩, 4) := ⟨⟨by decide +kernel, by decide +kernel⟩, List.mem_of_getElem? (i := 241) (by decide +kernel), List.mem_of_getElem? (i := 569) (by decide +kernel), List.mem_of_getElem? (i := 570) (by decide +kernel)⟩
theorem lw_p31 : lw_okq (⟨"SevenPlates$Course", "visit", "(I)I"⟩, 4) := ⟨⟨by decide +kernel, by decide +kernel⟩, List.mem_of_getElem? (i := 114) (by decide +kernel), List.mem_of_getElem? (i := 574) (by decide +kernel), List.mem_of_getElem? (i := 575) (by decide +kernel)⟩
def lw_privs_2 : List (MethodName × Nat) := [(⟨"SevenPlates$Course", "use", "(II)I"⟩, 4), (⟨"SevenPlates$Course", "bite", "(II)I"⟩, 4), (⟨"SevenPlates$Evening", "cool", "()V"⟩, 11), (⟨"SevenPlates$Evening", "fill", "(I)V"⟩, 11), (⟨"SevenPlates$Table", "sightBits", "()I"⟩, 12), (⟨"SevenPlates$Rows", "gather", "([II)V"⟩, 12), (⟨"SevenPlates$Rows", "walk", "(III)V"⟩, 12), (⟨"SevenPlates$Course", "stillToEat", "([I)I"⟩, 4), (⟨"SevenPlates$Rows", "note", "(II)V"⟩, 12), (⟨"SevenPlates$Course", "takeBack", "(III)V"⟩, 4), (⟨"SevenPlates$Rows", "atPlace", "(I)I"⟩, 12), (⟨"SevenPlates$Rows", "bestToLookAt", "()I"⟩, 12), (⟨"SevenPlates$Rows", "mostLeftOver", "(I)I"⟩, 12), (⟨"SevenPlates$Beliefs", "weigh", "(II)V"⟩, 4), (⟨"SevenPlates$Beliefs", "ways", "(II)J"⟩, 4), (⟨"SevenPlates$Course", "visit", "(I)I"⟩, 4)]
theorem lw_r2 : ∀ q ∈ lw_privs_2, lw_okq q := List.forall_mem_cons.mpr ⟨lw_p16, List.forall_mem_cons.mpr ⟨lw_p17, List.forall_mem_cons.mpr ⟨lw_p18, List.forall_mem_cons.mpr ⟨lw_p19, List.forall_mem_cons.mpr ⟨lw_p20, List.forall_mem_cons.mpr ⟨lw_p21, List.forall_mem_cons.mpr ⟨lw_p22, List.forall_mem_cons.mpr ⟨lw_p23, List.forall_mem_cons.mpr ⟨lw_p24, List.forall_mem_cons.mpr ⟨lw_p25, List.forall_mem_cons.mpr ⟨lw_p26, List.forall_mem_cons.mpr ⟨lw_p27, List.forall_mem_cons.mpr ⟨lw_p28, List.forall_mem_cons.mpr ⟨lw_p29, List.forall_mem_cons.mpr ⟨lw_p30, List.forall_mem_cons.mpr ⟨lw_p31, fun _ h => absurd h List.not_mem_nil⟩⟩⟩⟩⟩⟩⟩⟩⟩⟩⟩⟩⟩⟩⟩⟩
theorem lw_p32 : lw_okq (⟨"SevenPlates$Beliefs", "reduce", "()V"⟩, 4) := ⟨⟨by decide +kernel, by decide +kernel⟩, List.mem_of_getElem? (i := 241) (by decide +kernel), List.mem_of_getElem? (i := 582) (by decide +kernel), List.mem_of_getElem? (i := 583) (by decide +kernel)⟩
theorem lw_p33 : lw_okq (⟨"SevenPlates$Twos", "howMany", "()I"⟩, 3) := ⟨⟨by decide +kernel, by decide +kernel⟩, List.mem_of_getElem? (i := 278) (by decide +kernel), List.mem_of_getElem? (i := 590) (by decide +kernel), List.mem_of_getElem? (i := 591) (by decide +kernel)⟩
theorem lw_p34 : lw_okq (⟨"SevenPlates$Twos", "areAlike", "(II)Z"⟩, 3) := ⟨⟨by decide +kernel, by decide +kernel⟩, List.mem_of_getElem? (i := 278) (by decide +kernel), List.mem_of_getElem? (i := 597) (by decide +kernel), List.mem_of_getElem? (i := 598) (by decide +kernel)⟩
theorem lw_p35 : lw_okq (⟨"SevenPlates$Twos", "atPlace", "(I)I"⟩, 3) := ⟨⟨by decide +kernel, by decide +kernel⟩, List.mem_of_getElem? (i := 278) (by decide +kernel), List.mem_of_getElem? (i := 601) (by decide +kernel), List.mem_of_getElem? (i := 602) (by decide +kernel)⟩
theorem lw_p36 : lw_okq (⟨"SevenPlates$Twos", "fewestLaidAnew", "()I"⟩, 3) := ⟨⟨by decide +kernel, by decide +kernel⟩, List.mem_of_getElem? (i := 278) (by decide +kernel), List.mem_of_getElem? (i := 610) (by decide +kernel), List.mem_of_getElem? (i := 611) (by decide +kernel)⟩
theorem lw_p37 : lw_okq (⟨"SevenPlates$Twos", "helps", "(II)Z"⟩, 3) := ⟨⟨by decide +kernel, by decide +kernel⟩, List.mem_of_getElem? (i := 278) (by decide +kernel), List.mem_of_getElem? (i := 614) (by decide +kernel), List.mem_of_getElem? (i := 615) (by decide +kernel)⟩
theorem lw_p38 : lw_okq (⟨"SevenPlates$Leavings", "howMany", "(I)I"⟩, 3) := ⟨⟨by decide +kernel, by decide +kernel⟩, List.mem_of_getElem? (i := 262) (by decide +kernel), List.mem_of_getElem? (i := 630) (by decide +kernel), List.mem_of_getElem? (i := 631) (by decide +kernel)⟩
theorem lw_p39 : lw_okq (⟨"SevenPlates$Leavings", "walk", "(I)V"⟩, 3) := ⟨⟨by decide +kernel, by decide +kernel⟩, List.mem_of_getElem? (i := 262) (by decide +kernel), List.mem_of_getElem? (i := 636) (by decide +kernel), List.mem_of_getElem? (i := 637) (by decide +kernel)⟩
theorem lw_p40 : lw_okq (⟨"SevenPlates$Course", "asNumber", "()I"⟩, 4) := ⟨⟨by decide +kernel, by decide +kernel⟩, List.mem_of_getElem? (i := 114) (by decide +kernel), List.mem_of_getElem? (i := 640) (by decide +kernel), List.mem_of_getElem? (i := 641) (by decide +kernel)⟩
theorem lw_p41 : lw_okq (⟨"SevenPlates$Leavings", "put", "(I)V"⟩, 3) := ⟨⟨by decide +kernel, by decide +kernel⟩, List.mem_of_getElem? (i := 262) (by decide +kernel), List.mem_of_getElem? (i := 644) (by decide +kernel), List.mem_of_getElem? (i := 645) (by decide +kernel)⟩
theorem lw_p42 : lw_okq (⟨"SevenPlates$Table", "copyFrom", "(LSevenPlates$Table;)V"⟩, 12) := ⟨⟨by decide +kernel, by decide +kernel⟩, List.mem_of_getElem? (i := 24) (by decide +kernel), List.mem_of_getElem? (i := 661) (by decide +kernel), List.mem_of_getElem? (i := 662) (by decide +kernel)⟩
theorem lw_p43 : lw_okq (⟨"SevenPlates", "toldOfGuest", "(II)I"⟩, 10) := ⟨⟨by decide +kernel, by decide +kernel⟩, List.mem_of_getElem? (i := 16) (by decide +kernel), List.mem_of_getElem? (i := 674) (by decide +kernel), List.mem_of_getElem? (i := 675) (by decide +kernel)⟩
theorem lw_p44 : lw_okq (⟨"SevenPlates$Table", "ofGuest", "(II)I"⟩, 12) := ⟨⟨by decide +kernel, by decide +kernel⟩, List.mem_of_getElem? (i := 24) (by decide +kernel), List.mem_of_getElem? (i := 678) (by decide +kernel), List.mem_of_getElem? (i := 679) (by decide +kernel)⟩
theorem lw_p45 : lw_okq (⟨"SevenPlates", "toldOfThing", "(II)I"⟩, 10) := ⟨⟨by decide +kernel, by decide +kernel⟩, List.mem_of_getElem? (i := 16) (by decide +kernel), List.mem_of_getElem? (i := 682) (by decide +kernel), List.mem_of_getElem? (i := 683) (by decide +kernel)⟩
theorem lw_p46 : lw_okq (⟨"SevenPlatesModel", "begin", "(I)V"⟩, 38) := ⟨⟨by decide +kernel, by decide +kernel⟩, List.mem_of_getElem? (i := 686) (by decide +kernel), List.mem_of_getElem? (i := 692) (by decide +kernel), List.mem_of_getElem? (i := 693) (by decide +kernel)⟩
theorem lw_p47 : lw_okq (⟨"SevenPlatesModel", "isThing", "(I)Z"⟩, 38) := ⟨⟨by decide +kernel, by decide +kernel⟩, List.mem_of_getElem? (i := 686) (by decide +kernel), List.mem_of_getElem? (i := 826) (by decide +kernel), List.mem_of_getElem? (i := 827) (by decide +kernel)⟩
def lw_privs_3 : List (MethodName × Nat) := [(⟨"SevenPlates$Beliefs", "reduce", "()V"⟩, 4), (⟨"SevenPlates$Twos", "howMany", "()I"⟩, 3), (⟨"SevenPlates$Twos", "areAlike", "(II)Z"⟩, 3), (⟨"SevenPlates$Twos", "atPlace", "(I)I"⟩, 3), (⟨"SevenPlates$Twos", "fewestLaidAnew", "()I"⟩, 3), (⟨"SevenPlates$Twos", "helps", "(II)Z"⟩, 3), (⟨"SevenPlates$Leavings", "howMany", "(I)I"⟩, 3), (⟨"SevenPlates$Leavings", "walk", "(I)V"⟩, 3), (⟨"SevenPlates$Course", "asNumber", "()I"⟩, 4), (⟨"SevenPlates$Leavings", "put", "(I)V"⟩, 3), (⟨"SevenPlates$Table", "copyFrom", "(LSevenPlates$Table;)V"⟩, 12), (⟨"SevenPlates", "toldOfGuest", "(II)I"⟩, 10), (⟨"SevenPlates$Table", "ofGuest", "(II)I"⟩, 12), (⟨"SevenPlates", "toldOfThing", "(II)I"⟩, 10), (⟨"SevenPlatesModel", "begin", "(I)V"⟩, 38), (⟨"SevenPlatesModel", "isThing", "(I)Z"⟩, 38)]
theorem lw_r3 : ∀ q ∈ lw_privs_3, lw_okq q := List.forall_mem_cons.mpr ⟨lw_p32, List.forall_mem_cons.mpr ⟨lw_p33, List.forall_mem_cons.mpr ⟨lw_p34, List.forall_mem_cons.mpr ⟨lw_p35, List.forall_mem_cons.mpr ⟨lw_p36, List.forall_mem_cons.mpr ⟨lw_p37, List.forall_mem_cons.mpr ⟨lw_p38, List.forall_mem_cons.mpr ⟨lw_p39, List.forall_mem_cons.mpr ⟨lw_p40, List.forall_mem_cons.mpr ⟨lw_p41, List.forall_mem_cons.mpr ⟨lw_p42, List.forall_mem_cons.mpr ⟨lw_p43, List.forall_mem_cons.mpr ⟨lw_p44, List.forall_mem_cons.mpr ⟨lw_p45, List.forall_mem_cons.mpr ⟨lw_p46, List.forall_mem_cons.mpr ⟨lw_p47, fun _ h => absurd h List.not_mem_nil⟩⟩⟩⟩⟩⟩⟩⟩⟩⟩⟩⟩⟩⟩⟩⟩
theorem lw_p48 : lw_okq (⟨"SevenPlatesModel", "isThere", "(I)Z"⟩, 38) := ⟨⟨by decide +kernel, by decide +kernel⟩, List.mem_of_getElem? (i := 686) (by decide +kernel), List.mem_of_getElem? (i := 843) (by decide +kernel), List.mem_of_getElem? (i := 844) (by decide +kernel)⟩
theorem lw_p49 : lw_okq (⟨"SevenPlatesModel", "refusal", "()I"⟩, 38) := ⟨⟨by decide +kernel, by decide +kernel⟩, List.mem_of_getElem? (i := 686) (by decide +kernel), List.mem_of_getElem? (i := 867) (by decide +kernel), List.mem_of_getElem? (i := 868) (by decide +kernel)⟩
theorem lw_p50 : lw_okq (⟨"SevenPlatesModel", "keepNow", "()V"⟩, 38) := ⟨⟨by decide +kernel, by decide +kernel⟩, List.mem_of_getElem? (i := 686) (by decide +kernel), List.mem_of_getElem? (i := 872) (by decide +kernel), List.mem_of_getElem? (i := 873) (by decide +kernel)⟩
theorem lw_p51 : lw_okq (⟨"SevenPlatesModel", "goEvening", "()V"⟩, 38) := ⟨⟨by decide +kernel, by decide +kernel⟩, List.mem_of_getElem? (i := 686) (by decide +kernel), List.mem_of_getElem? (i := 876) (by decide +kernel), List.mem_of_getElem? (i := 877) (by decide +kernel)⟩
theorem lw_p52 : lw_okq (⟨"SevenPlatesModel", "passHour", "()V"⟩, 38) := ⟨⟨by decide +kernel, by decide +kernel⟩, List.mem_of_getElem? (i := 686) (by decide +kernel), List.mem_of_getElem? (i := 880) (by decide +kernel), List.mem_of_getElem? (i := 881) (by decide +kernel)⟩
theorem lw_p53 : lw_okq (⟨"SevenPlatesModel", "comeIn", "(II)V"⟩, 38) := ⟨⟨by decide +kernel, by decide +kernel⟩, List.mem_of_getElem? (i := 686) (by decide +kernel), List.mem_of_getElem? (i := 886) (by decide +kernel), List.mem_of_getElem? (i := 887) (by decide +kernel)⟩
theorem lw_p54 : lw_okq (⟨"SevenPlatesModel", "taken", "(I)I"⟩, 38) := ⟨⟨by decide +kernel, by decide +kernel⟩, List.mem_of_getElem? (i := 686) (by decide +kernel), List.mem_of_getElem? (i := 890) (by decide +kernel), List.mem_of_getElem? (i := 891) (by decide +kernel)⟩
theorem lw_p55 : lw_okq (⟨"SevenPlatesModel", "isPassed", "(I)Z"⟩, 38) := ⟨⟨by decide +kernel, by decide +kernel⟩, List.mem_of_getElem? (i := 686) (by decide +kernel), List.mem_of_getElem? (i := 894) (by decide +kernel), List.mem_of_getElem? (i := 895) (by decide +kernel)⟩
theorem lw_p56 : lw_okq (⟨"SevenPlatesModel", "likes", "(II)I"⟩, 38) := ⟨⟨by decide +kernel, by decide +kernel⟩, List.mem_of_getElem? (i := 686) (by decide +kernel), List.mem_of_getElem? (i := 898) (by decide +kernel), List.mem_of_getElem? (i := 899) (by decide +kernel)⟩
theorem lw_p57 : lw_okq (⟨"SevenPlatesModel", "use", "(II)V"⟩, 38) := ⟨⟨by decide +kernel, by decide +kernel⟩, List.mem_of_getElem? (i := 686) (by decide +kernel), List.mem_of_getElem? (i := 902) (by decide +kernel), List.mem_of_getElem? (i := 903) (by decide +kernel)⟩
theorem lw_p58 : lw_okq (⟨"SevenPlatesModel", "putBack", "()V"⟩, 38) := ⟨⟨by decide +kernel, by decide +kernel⟩, List.mem_of_getElem? (i := 686) (by decide +kernel), List.mem_of_getElem? (i := 906) (by decide +kernel), List.mem_of_getElem? (i := 907) (by decide +kernel)⟩
theorem lw_p59 : lw_okq (⟨"SevenPlatesModel", "sights", "()I"⟩, 38) := ⟨⟨by decide +kernel, by decide +kernel⟩, List.mem_of_getElem? (i := 686) (by decide +kernel), List.mem_of_getElem? (i := 934) (by decide +kernel), List.mem_of_getElem? (i := 935) (by decide +kernel)⟩
theorem lw_p60 : lw_okq (⟨"SevenPlatesModel", "goRows", "(I)V"⟩, 38) := ⟨⟨by decide +kernel, by decide +kernel⟩, List.mem_of_getElem? (i := 686) (by decide +kernel), List.mem_of_getElem? (i := 947) (by decide +kernel), List.mem_of_getElem? (i := 948) (by decide +kernel)⟩
theorem lw_p61 : lw_okq (⟨"SevenPlatesModel", "layRow", "(II)V"⟩, 38) := ⟨⟨by decide +kernel, by decide +kernel⟩, List.mem_of_getElem? (i := 686) (by decide +kernel), List.mem_of_getElem? (i := 954) (by decide +kernel), List.mem_of_getElem? (i := 955) (by decide +kernel)⟩
theorem lw_p62 : lw_okq (⟨"SevenPlatesModel", "canGo", "(I)Z"⟩, 38) := ⟨⟨by decide +kernel, by decide +kernel⟩, List.mem_of_getElem? (i := 686) (by decide +kernel), List.mem_of_getElem? (i := 958) (by decide +kernel), List.mem_of_getElem? (i := 959) (by decide +kernel)⟩
theorem lw_p63 : lw_okq (⟨"SevenPlatesModel", "isSeenSo", "()Z"⟩, 38) := ⟨⟨by decide +kernel, by decide +kernel⟩, List.mem_of_getElem? (i := 686) (by decide +kernel), List.mem_of_getElem? (i := 962) (by decide +kernel), List.mem_of_getElem? (i := 963) (by decide +kernel)⟩
def lw_privs_4 : List (MethodName × Nat) := [(⟨"SevenPlatesModel", "isThere", "(I)Z"⟩, 38), (⟨"SevenPlatesModel", "refusal", "()I"⟩, 38), (⟨"SevenPlatesModel", "keepNow", "()V"⟩, 38), (⟨"SevenPlatesModel", "goEvening", "()V"⟩, 38), (⟨"SevenPlatesModel", "passHour", "()V"⟩, 38), (⟨"SevenPlatesModel", "comeIn", "(II)V"⟩, 38), (⟨"SevenPlatesModel", "taken", "(I)I"⟩, 38), (⟨"SevenPlatesModel", "isPassed", "(I)Z"⟩, 38), (⟨"SevenPlatesModel", "likes", "(II)I"⟩, 38), (⟨"SevenPlatesModel", "use", "(II)V"⟩, 38), (⟨"SevenPlatesModel", "putBack", "()V"⟩, 38), (⟨"SevenPlatesModel", "sights", "()I"⟩, 38), (⟨"SevenPlatesModel", "goRows", "(I)V"⟩, 38), (⟨"SevenPlatesModel", "layRow", "(II)V"⟩, 38), (⟨"SevenPlatesModel", "canGo", "(I)Z"⟩, 38), (⟨"SevenPlatesModel", "isSeenSo", "()Z"⟩, 38)]
theorem lw_r4 : ∀ q ∈ lw_privs_4, lw_okq q := List.forall_mem_cons.mpr ⟨lw_p48, List.forall_mem_cons.mpr ⟨lw_p49, List.forall_mem_cons.mpr ⟨lw_p50, List.forall_mem_cons.mpr ⟨lw_p51, List.forall_mem_cons.mpr ⟨lw_p52, List.forall_mem_cons.mpr ⟨lw_p53, List.forall_mem_cons.mpr ⟨lw_p54, List.forall_mem_cons.mpr ⟨lw_p55, List.forall_mem_cons.mpr ⟨lw_p56, List.forall_mem_cons.mpr ⟨lw_p57, List.forall_mem_cons.mpr ⟨lw_p58, List.forall_mem_cons.mpr ⟨lw_p59, List.forall_mem_cons.mpr ⟨lw_p60, List.forall_mem_cons.mpr ⟨lw_p61, List.forall_mem_cons.mpr ⟨lw_p62, List.forall_mem_cons.mpr ⟨lw_p63, fun _ h => absurd h List.not_mem_nil⟩⟩⟩⟩⟩⟩⟩⟩⟩⟩⟩⟩⟩⟩⟩⟩
theorem lw_p64 : lw_okq (⟨"SevenPlatesModel", "countRow", "(I)V"⟩, 38) := ⟨⟨by decide +kernel, by decide +kernel⟩, List.mem_of_getElem? (i := 686) (by decide +kernel), List.mem_of_getElem? (i := 966) (by decide +kernel), List.mem_of_getElem? (i := 967) (by decide +kernel)⟩
theorem lw_p65 : lw_okq (⟨"SevenPlatesModel", "mostLeft", "(I)I"⟩, 38) := ⟨⟨by decide +kernel, by decide +kernel⟩, List.mem_of_getElem? (i := 686) (by decide +kernel), List.mem_of_getElem? (i := 978) (by decide +kernel), List.mem_of_getElem? (i := 979) (by decide +kernel)⟩
theorem lw_p66 : lw_okq (⟨"SevenPlatesModel", "weightOf", "(I)J"⟩, 38) := ⟨⟨by decide +kernel, by decide +kernel⟩, List.mem_of_getElem? (i := 686) (by decide +kernel), List.mem_of_getElem? (i := 989) (by decide +kernel), List.mem_of_getElem? (i := 990) (by decide +kernel)⟩
theorem lw_p67 : lw_okq (⟨"SevenPlatesModel", "findAlone", "()V"⟩, 38) := ⟨⟨by decide +kernel, by decide +kernel⟩, List.mem_of_getElem? (i := 686) (by decide +kernel), List.mem_of_getElem? (i := 1000) (by decide +kernel), List.mem_of_getElem? (i := 1001) (by decide +kernel)⟩
theorem lw_p68 : lw_okq (⟨"SevenPlatesModel", "tableNow", "()I"⟩, 38) := ⟨⟨by decide +kernel, by decide +kernel⟩, List.mem_of_getElem? (i := 686) (by decide +kernel), List.mem_of_getElem? (i := 1004) (by decide +kernel), List.mem_of_getElem? (i := 1005) (by decide +kernel)⟩
theorem lw_p69 : lw_okq (⟨"SevenPlatesModel", "laidSet", "()I"⟩, 38) := ⟨⟨by decide +kernel, by decide +kernel⟩, List.mem_of_getElem? (i := 686) (by decide +kernel), List.mem_of_getElem? (i := 1012) (by decide +kernel), List.mem_of_getElem? (i := 1013) (by decide +kernel)⟩
theorem lw_p70 : lw_okq (⟨"SevenPlatesModel", "areApart", "()Z"⟩, 38) := ⟨⟨by decide +kernel, by decide +kernel⟩, List.mem_of_getElem? (i := 686) (by decide +kernel), List.mem_of_getElem? (i := 1016) (by decide +kernel), List.mem_of_getElem? (i := 1017) (by decide +kernel)⟩
theorem lw_p71 : lw_okq (⟨"SevenPlatesModel", "canBeLaid", "(II)Z"⟩, 38) := ⟨⟨by decide +kernel, by decide +kernel⟩, List.mem_of_getElem? (i := 686) (by decide +kernel), List.mem_of_getElem? (i := 1020) (by decide +kernel), List.mem_of_getElem? (i := 1021) (by decide +kernel)⟩
theorem lw_p72 : lw_okq (⟨"SevenPlatesModel", "isLeftSo", "()Z"⟩, 38) := ⟨⟨by decide +kernel, by decide +kernel⟩, List.mem_of_getElem? (i := 686) (by decide +kernel), List.mem_of_getElem? (i := 1032) (by decide +kernel), List.mem_of_getElem? (i := 1033) (by decide +kernel)⟩
theorem lw_p73 : lw_okq (⟨"SevenPlatesModel", "passAll", "()V"⟩, 38) := ⟨⟨by decide +kernel, by decide +kernel⟩, List.mem_of_getElem? (i := 686) (by decide +kernel), List.mem_of_getElem? (i := 1055) (by decide +kernel), List.mem_of_getElem? (i := 1056) (by decide +kernel)⟩
theorem lw_p74 : lw_okq (⟨"SevenPlatesModel", "pass", "(I)I"⟩, 38) := ⟨⟨by decide +kernel, by decide +kernel⟩, List.mem_of_getElem? (i := 686) (by decide +kernel), List.mem_of_getElem? (i := 1059) (by decide +kernel), List.mem_of_getElem? (i := 1060) (by decide +kernel)⟩
theorem lw_p75 : lw_okq (⟨"SevenPlatesModel", "toldOfGuest", "(II)I"⟩, 38) := ⟨⟨by decide +kernel, by decide +kernel⟩, List.mem_of_getElem? (i := 686) (by decide +kernel), List.mem_of_getElem? (i := 1073) (by decide +kernel), List.mem_of_getElem? (i := 1074) (by decide +kernel)⟩
theorem lw_p76 : lw_okq (⟨"SevenPlatesModel", "toldOfThing", "(II)I"⟩, 38) := ⟨⟨by decide +kernel, by decide +kernel⟩, List.mem_of_getElem? (i := 686) (by decide +kernel), List.mem_of_getElem? (i := 1079) (by decide +kernel), List.mem_of_getElem? (i := 1080) (by decide +kernel)⟩
def lw_privs_5 : List (MethodName × Nat) := [(⟨"SevenPlatesModel", "countRow", "(I)V"⟩, 38), (⟨"SevenPlatesModel", "mostLeft", "(I)I"⟩, 38), (⟨"SevenPlatesModel", "weightOf", "(I)J"⟩, 38), (⟨"SevenPlatesModel", "findAlone", "()V"⟩, 38), (⟨"SevenPlatesModel", "tableNow", "()I"⟩, 38), (⟨"SevenPlatesModel", "laidSet", "()I"⟩, 38), (⟨"SevenPlatesModel", "areApart", "()Z"⟩, 38), (⟨"SevenPlatesModel", "canBeLaid", "(II)Z"⟩, 38), (⟨"SevenPlatesModel", "isLeftSo", "()Z"⟩, 38), (⟨"SevenPlatesModel", "passAll", "()V"⟩, 38), (⟨"SevenPlatesModel", "pass", "(I)I"⟩, 38), (⟨"SevenPlatesModel", "toldOfGuest", "(II)I"⟩, 38), (⟨"SevenPlatesModel", "toldOfThing", "(II)I"⟩, 38)]
theorem lw_r5 : ∀ q ∈ lw_privs_5, lw_okq q := List.forall_mem_cons.mpr ⟨lw_p64, List.forall_mem_cons.mpr ⟨lw_p65, List.forall_mem_cons.mpr ⟨lw_p66, List.forall_mem_cons.mpr ⟨lw_p67, List.forall_mem_cons.mpr ⟨lw_p68, List.forall_mem_cons.mpr ⟨lw_p69, List.forall_mem_cons.mpr ⟨lw_p70, List.forall_mem_cons.mpr ⟨lw_p71, List.forall_mem_cons.mpr ⟨lw_p72, List.forall_mem_cons.mpr ⟨lw_p73, List.forall_mem_cons.mpr ⟨lw_p74, List.forall_mem_cons.mpr ⟨lw_p75, List.forall_mem_cons.mpr ⟨lw_p76, fun _ h => absurd h List.not_mem_nil⟩⟩⟩⟩⟩⟩⟩⟩⟩⟩⟩⟩⟩
def lw_privs : List (MethodName × Nat) := lw_privs_1 ++ (lw_privs_2 ++ (lw_privs_3 ++ (lw_privs_4 ++ (lw_privs_5))))
def lw_tbl : List Cond := k2_sels lw_privs ++ tables_1
theorem lw_privs_ok : ∀ q ∈ lw_privs, lw_okq q := by
  show ∀ q ∈ lw_privs_1 ++ (lw_privs_2 ++ (lw_privs_3 ++ (lw_privs_4 ++ (lw_privs_5)))), lw_okq q
  exact List.forall_mem_append.mpr ⟨lw_r1, List.forall_mem_append.mpr ⟨lw_r2, List.forall_mem_append.mpr ⟨lw_r3, List.forall_mem_append.mpr ⟨lw_r4, lw_r5⟩⟩⟩⟩

/-! ===== BEGIN words of one list among another's, by their places ===== -/
theorem goodIn_r {big : List Cond} (ws : List Cond) (ps : List Nat) (hp : ws = ps.filterMap (fun i => big[i]?)) (h : ws.all goodWord = true) : GoodIn big ws := by
  intro w hw
  have h1 := List.all_eq_true.mp h w hw
  rw [hp] at hw
  obtain ⟨i, -, hi⟩ := List.mem_filterMap.mp hw
  have hm : w ∈ big := by first | exact List.mem_of_getElem? hi | exact List.getElem?_mem hi
  exact ⟨hm, good_of_word h1⟩
theorem goodIn_app {big a b : List Cond} (ha : GoodIn big a) (hb : GoodIn big b) : GoodIn big (a ++ b) := fun w h => (List.mem_append.mp h).elim (ha w) (hb w)
theorem goodIn_ca {big a b : List Cond} {c : Cond} (ha : GoodIn big (c :: a)) (hb : GoodIn big b) : GoodIn big (c :: (a ++ b)) := fun w h => (List.mem_cons.mp h).elim (fun e => ha w (List.mem_cons.mpr (Or.inl e))) (fun h => (List.mem_append.mp h).elim (fun h => ha w (List.mem_cons.mpr (Or.inr h))) (hb w))
theorem goodIn_sub {big ws : List Cond} (hm : ∀ w ∈ ws, w ∈ big) (h : ws.all goodWord = true) : GoodIn big ws := fun w hw => ⟨hm w hw, good_of_word (List.all_eq_true.mp h w hw)⟩
/-! ===== END ===== -/

def RX0 : String := "SevenPlates$Beliefs"
def TX0 : u_T := fun k => match k with
  | 0 => ("SevenPlates$Beliefs", "table", "LSevenPlates$Table;", true)
  | 1 => ("SevenPlates$Beliefs", "course", "LSevenPlates$Course;", true)
  | 2 => ("SevenPlates$Beliefs", "upper", "J", false)
  | _ => ("SevenPlates$Beliefs", "lower", "J", false)
def tyX0 : Nat → FieldType := fun k => match k with
  | 0 => .object "SevenPlates$Table"
  | 1 => .object "SevenPlates$Course"
  | 2 => .long
  | _ => .long
abbrev wsX00 : List Cond := u_ws RX0 TX0 4
theorem nmX0 : ∀ a, a < 4 → ∀ b, b < 4 → a ≠ b → (TX0 a).2.1 ≠ (TX0 b).2.1 := by decide +kernel
theorem tyX0_ok : ∀ k, k < 4 → parseFieldDescriptor (TX0 k).2.2.1 = some (tyX0 k) := by decide +kernel
abbrev cX0_init : ByteArray := prog_2_method_1_code
def yX0_init : MethodName := ⟨RX0, "<init>", "(LSevenPlates$Table;LSevenPlates$Course;)V"⟩
abbrev cX0_weigh : ByteArray := prog_2_method_2_code
def yX0_weigh : MethodName := ⟨RX0, "weigh", "(II)V"⟩
abbrev cX0_ways : ByteArray := prog_2_method_3_code
def yX0_ways : MethodName := ⟨RX0, "ways", "(II)J"⟩
abbrev cX0_reduce : ByteArray := prog_2_method_4_code
def yX0_reduce : MethodName := ⟨RX0, "reduce", "()V"⟩
def RX1 : String := "SevenPlates$Course"
def TX1 : u_T := fun k => match k with
  | 0 => ("SevenPlates$Course", "table", "LSevenPlates$Table;", true)
  | 1 => ("SevenPlates$Course", "left", "[I", true)
  | 2 => ("SevenPlates$Course", "locked", "I", false)
  | _ => ("SevenPlates$Course", "last", "I", false)
def tyX1 : Nat → FieldType := fun k => match k with
  | 0 => .object "SevenPlates$Table"
  | 1 => .array .int
  | 2 => .int
  | _ => .int
abbrev wsX10 : List Cond := u_ws RX1 TX1 4
theorem nmX1 : ∀ a, a < 4 → ∀ b, b < 4 → a ≠ b → (TX1 a).2.1 ≠ (TX1 b).2.1 := by decide +kernel
theorem tyX1_ok : ∀ k, k < 4 → parseFieldDescriptor (TX1 k).2.2.1 = some (tyX1 k) := by decide +kernel
abbrev cX1_init : ByteArray := prog_3_method_1_code
def yX1_init : MethodName := ⟨RX1, "<init>", "(LSevenPlates$Table;)V"⟩
abbrev cX1_begin : ByteArray := prog_3_method_2_code
def yX1_begin : MethodName := ⟨RX1, "begin", "()V"⟩
abbrev cX1_choice : ByteArray := prog_3_method_3_code
def yX1_choice : MethodName := ⟨RX1, "choice", "(I)I"⟩
abbrev cX1_rank : ByteArray := prog_3_method_4_code
def yX1_rank : MethodName := ⟨RX1, "rank", "(II)I"⟩
abbrev cX1_use : ByteArray := prog_3_method_5_code
def yX1_use : MethodName := ⟨RX1, "use", "(II)I"⟩
abbrev cX1_bite : ByteArray := prog_3_method_6_code
def yX1_bite : MethodName := ⟨RX1, "bite", "(II)I"⟩
abbrev cX1_takeBack : ByteArray := prog_3_method_7_code
def yX1_takeBack : MethodName := ⟨RX1, "takeBack", "(III)V"⟩
abbrev cX1_visit : ByteArray := prog_3_method_8_code
def yX1_visit : MethodName := ⟨RX1, "visit", "(I)I"⟩
abbrev cX1_stillToEat : ByteArray := prog_3_method_9_code
def yX1_stillToEat : MethodName := ⟨RX1, "stillToEat", "([I)I"⟩
abbrev cX1_asNumber : ByteArray := prog_3_method_10_code
def yX1_asNumber : MethodName := ⟨RX1, "asNumber", "()I"⟩
def RX2 : String := "SevenPlates$Evening"
def TX2 : u_T := fun k => match k with
  | 0 => ("SevenPlates$Evening", "table", "LSevenPlates$Table;", true)
  | 1 => ("SevenPlates$Evening", "course", "LSevenPlates$Course;", true)
  | 2 => ("SevenPlates$Evening", "warm", "[I", true)
  | 3 => ("SevenPlates$Evening", "first", "[I", true)
  | 4 => ("SevenPlates$Evening", "last", "[I", true)
  | 5 => ("SevenPlates$Evening", "leaves", "[I", true)
  | 6 => ("SevenPlates$Evening", "taken", "[I", true)
  | 7 => ("SevenPlates$Evening", "badPart", "I", false)
  | 8 => ("SevenPlates$Evening", "why", "I", false)
  | 9 => ("SevenPlates$Evening", "came", "I", false)
  | _ => ("SevenPlates$Evening", "eaten", "I", false)
def tyX2 : Nat → FieldType := fun k => match k with
  | 0 => .object "SevenPlates$Table"
  | 1 => .object "SevenPlates$Course"
  | 2 => .array .int
  | 3 => .array .int
  | 4 => .array .int
  | 5 => .array .int
  | 6 => .array .int
  | 7 => .int
  | 8 => .int
  | 9 => .int
  | _ => .int
abbrev wsX20 : List Cond := u_ws RX2 TX2 11
theorem nmX2 : ∀ a, a < 11 → ∀ b, b < 11 → a ≠ b → (TX2 a).2.1 ≠ (TX2 b).2.1 := by decide +kernel
theorem tyX2_ok : ∀ k, k < 11 → parseFieldDescriptor (TX2 k).2.2.1 = some (tyX2 k) := by decide +kernel
abbrev cX2_init : ByteArray := prog_4_method_1_code
def yX2_init : MethodName := ⟨RX2, "<init>", "(LSevenPlates$Table;LSevenPlates$Course;)V"⟩
abbrev cX2_run : ByteArray := prog_4_method_2_code
def yX2_run : MethodName := ⟨RX2, "run", "(LSevenPlates$Pad;)V"⟩
abbrev cX2_begin : ByteArray := prog_4_method_3_code
def yX2_begin : MethodName := ⟨RX2, "begin", "()V"⟩
abbrev cX2_comes : ByteArray := prog_4_method_4_code
def yX2_comes : MethodName := ⟨RX2, "comes", "(II)V"⟩
abbrev cX2_fail : ByteArray := prog_4_method_5_code
def yX2_fail : MethodName := ⟨RX2, "fail", "(II)V"⟩
abbrev cX2_cool : ByteArray := prog_4_method_6_code
def yX2_cool : MethodName := ⟨RX2, "cool", "()V"⟩
abbrev cX2_fill : ByteArray := prog_4_method_7_code
def yX2_fill : MethodName := ⟨RX2, "fill", "(I)V"⟩
def RX3 : String := "SevenPlates$Leavings"
def TX3 : u_T := fun k => match k with
  | 0 => ("SevenPlates$Leavings", "course", "LSevenPlates$Course;", true)
  | 1 => ("SevenPlates$Leavings", "found", "[I", true)
  | _ => ("SevenPlates$Leavings", "count", "I", false)
def tyX3 : Nat → FieldType := fun k => match k with
  | 0 => .object "SevenPlates$Course"
  | 1 => .array .int
  | _ => .int
abbrev wsX30 : List Cond := u_ws RX3 TX3 3
theorem nmX3 : ∀ a, a < 3 → ∀ b, b < 3 → a ≠ b → (TX3 a).2.1 ≠ (TX3 b).2.1 := by decide +kernel
theorem tyX3_ok : ∀ k, k < 3 → parseFieldDescriptor (TX3 k).2.2.1 = some (tyX3 k) := by decide +kernel
abbrev cX3_init : ByteArray := prog_5_method_1_code
def yX3_init : MethodName := ⟨RX3, "<init>", "(LSevenPlates$Course;)V"⟩
abbrev cX3_howMany : ByteArray := prog_5_method_2_code
def yX3_howMany : MethodName := ⟨RX3, "howMany", "(I)I"⟩
abbrev cX3_walk : ByteArray := prog_5_method_3_code
def yX3_walk : MethodName := ⟨RX3, "walk", "(I)V"⟩
abbrev cX3_put : ByteArray := prog_5_method_4_code
def yX3_put : MethodName := ⟨RX3, "put", "(I)V"⟩
def RX4 : String := "SevenPlates$Pad"
def TX4 : u_T := fun k => match k with
  | 0 => ("SevenPlates$Pad", "count", "I", false)
  | _ => ("SevenPlates$Pad", "signs", "[I", true)
def tyX4 : Nat → FieldType := fun k => match k with
  | 0 => .int
  | _ => .array .int
abbrev wsX40 : List Cond := u_ws RX4 TX4 2
theorem nmX4 : ∀ a, a < 2 → ∀ b, b < 2 → a ≠ b → (TX4 a).2.1 ≠ (TX4 b).2.1 := by decide +kernel
theorem tyX4_ok : ∀ k, k < 2 → parseFieldDescriptor (TX4 k).2.2.1 = some (tyX4 k) := by decide +kernel
abbrev cX4_init : ByteArray := prog_6_method_1_code
def yX4_init : MethodName := ⟨RX4, "<init>", "()V"⟩
abbrev cX4_add : ByteArray := prog_6_method_2_code
def yX4_add : MethodName := ⟨RX4, "add", "(I)I"⟩
abbrev cX4_firstFault : ByteArray := prog_6_method_3_code
def yX4_firstFault : MethodName := ⟨RX4, "firstFault", "(I)I"⟩
abbrev cX4_canStand : ByteArray := prog_6_method_4_code
def yX4_canStand : MethodName := ⟨RX4, "canStand", "(II)Z"⟩
abbrev cX4_isGuest : ByteArray := prog_6_method_5_code
def yX4_isGuest : MethodName := ⟨RX4, "isGuest", "(I)Z"⟩
def RX5 : String := "SevenPlates$Rows"
def TX5 : u_T := fun k => match k with
  | 0 => ("SevenPlates$Rows", "table", "LSevenPlates$Table;", true)
  | 1 => ("SevenPlates$Rows", "course", "LSevenPlates$Course;", true)
  | 2 => ("SevenPlates$Rows", "sights", "[I", true)
  | 3 => ("SevenPlates$Rows", "row", "[I", true)
  | 4 => ("SevenPlates$Rows", "firstUser", "[I", true)
  | 5 => ("SevenPlates$Rows", "count", "I", false)
  | 6 => ("SevenPlates$Rows", "fewest", "I", false)
  | 7 => ("SevenPlates$Rows", "sure", "I", false)
  | 8 => ("SevenPlates$Rows", "maybe", "I", false)
  | 9 => ("SevenPlates$Rows", "least", "[I", true)
  | 10 => ("SevenPlates$Rows", "cups", "[I", true)
  | _ => ("SevenPlates$Rows", "rowsByLeft", "[[I", true)
def tyX5 : Nat → FieldType := fun k => match k with
  | 0 => .object "SevenPlates$Table"
  | 1 => .object "SevenPlates$Course"
  | 2 => .array .int
  | 3 => .array .int
  | 4 => .array .int
  | 5 => .int
  | 6 => .int
  | 7 => .int
  | 8 => .int
  | 9 => .array .int
  | 10 => .array .int
  | _ => .array (.array .int)
abbrev wsX50 : List Cond := u_ws RX5 TX5 12
theorem nmX5 : ∀ a, a < 12 → ∀ b, b < 12 → a ≠ b → (TX5 a).2.1 ≠ (TX5 b).2.1 := by decide +kernel
theorem tyX5_ok : ∀ k, k < 12 → parseFieldDescriptor (TX5 k).2.2.1 = some (tyX5 k) := by decide +kernel
abbrev cX5_init : ByteArray := prog_7_method_1_code
def yX5_init : MethodName := ⟨RX5, "<init>", "(LSevenPlates$Table;LSevenPlates$Course;)V"⟩
abbrev cX5_gather : ByteArray := prog_7_method_2_code
def yX5_gather : MethodName := ⟨RX5, "gather", "([II)V"⟩
abbrev cX5_walk : ByteArray := prog_7_method_3_code
def yX5_walk : MethodName := ⟨RX5, "walk", "(III)V"⟩
abbrev cX5_note : ByteArray := prog_7_method_4_code
def yX5_note : MethodName := ⟨RX5, "note", "(II)V"⟩
abbrev cX5_atPlace : ByteArray := prog_7_method_5_code
def yX5_atPlace : MethodName := ⟨RX5, "atPlace", "(I)I"⟩
abbrev cX5_bestToLookAt : ByteArray := prog_7_method_6_code
def yX5_bestToLookAt : MethodName := ⟨RX5, "bestToLookAt", "()I"⟩
abbrev cX5_mostLeftOver : ByteArray := prog_7_method_7_code
def yX5_mostLeftOver : MethodName := ⟨RX5, "mostLeftOver", "(I)I"⟩
def RX6 : String := "SevenPlates$Table"
def TX6 : u_T := fun k => match k with
  | 0 => ("SevenPlates$Table", "things", "I", false)
  | 1 => ("SevenPlates$Table", "locked", "I", false)
  | 2 => ("SevenPlates$Table", "guests", "I", false)
  | 3 => ("SevenPlates$Table", "size", "[I", true)
  | 4 => ("SevenPlates$Table", "laid", "[I", true)
  | 5 => ("SevenPlates$Table", "left", "[I", true)
  | 6 => ("SevenPlates$Table", "warm", "[I", true)
  | 7 => ("SevenPlates$Table", "sight", "[I", true)
  | 8 => ("SevenPlates$Table", "girth", "[I", true)
  | 9 => ("SevenPlates$Table", "hunger", "[I", true)
  | 10 => ("SevenPlates$Table", "habit", "[I", true)
  | _ => ("SevenPlates$Table", "often", "[I", true)
def tyX6 : Nat → FieldType := fun k => match k with
  | 0 => .int
  | 1 => .int
  | 2 => .int
  | 3 => .array .int
  | 4 => .array .int
  | 5 => .array .int
  | 6 => .array .int
  | 7 => .array .int
  | 8 => .array .int
  | 9 => .array .int
  | 10 => .array .int
  | _ => .array .int
abbrev wsX60 : List Cond := u_ws RX6 TX6 12
theorem nmX6 : ∀ a, a < 12 → ∀ b, b < 12 → a ≠ b → (TX6 a).2.1 ≠ (TX6 b).2.1 := by decide +kernel
theorem tyX6_ok : ∀ k, k < 12 → parseFieldDescriptor (TX6 k).2.2.1 = some (tyX6 k) := by decide +kernel
abbrev cX6_init : ByteArray := prog_8_method_1_code
def yX6_init : MethodName := ⟨RX6, "<init>", "()V"⟩
abbrev cX6_asAtFirst : ByteArray := prog_8_method_2_code
def yX6_asAtFirst : MethodName := ⟨RX6, "asAtFirst", "(I)V"⟩
abbrev cX6_hasThing : ByteArray := prog_8_method_3_code
def yX6_hasThing : MethodName := ⟨RX6, "hasThing", "(I)Z"⟩
abbrev cX6_hasGuest : ByteArray := prog_8_method_4_code
def yX6_hasGuest : MethodName := ⟨RX6, "hasGuest", "(I)Z"⟩
abbrev cX6_ofThing : ByteArray := prog_8_method_5_code
def yX6_ofThing : MethodName := ⟨RX6, "ofThing", "(II)I"⟩
abbrev cX6_ofGuest : ByteArray := prog_8_method_6_code
def yX6_ofGuest : MethodName := ⟨RX6, "ofGuest", "(II)I"⟩
abbrev cX6_change : ByteArray := prog_8_method_7_code
def yX6_change : MethodName := ⟨RX6, "change", "(III)V"⟩
abbrev cX6_welcome : ByteArray := prog_8_method_8_code
def yX6_welcome : MethodName := ⟨RX6, "welcome", "(IIIII)V"⟩
abbrev cX6_sightBits : ByteArray := prog_8_method_9_code
def yX6_sightBits : MethodName := ⟨RX6, "sightBits", "()I"⟩
abbrev cX6_copyFrom : ByteArray := prog_8_method_10_code
def yX6_copyFrom : MethodName := ⟨RX6, "copyFrom", "(LSevenPlates$Table;)V"⟩
def RX7 : String := "SevenPlates$Twos"
def TX7 : u_T := fun k => match k with
  | 0 => ("SevenPlates$Twos", "table", "LSevenPlates$Table;", true)
  | 1 => ("SevenPlates$Twos", "course", "LSevenPlates$Course;", true)
  | _ => ("SevenPlates$Twos", "doing", "[I", true)
def tyX7 : Nat → FieldType := fun k => match k with
  | 0 => .object "SevenPlates$Table"
  | 1 => .object "SevenPlates$Course"
  | _ => .array .int
abbrev wsX70 : List Cond := u_ws RX7 TX7 3
theorem nmX7 : ∀ a, a < 3 → ∀ b, b < 3 → a ≠ b → (TX7 a).2.1 ≠ (TX7 b).2.1 := by decide +kernel
theorem tyX7_ok : ∀ k, k < 3 → parseFieldDescriptor (TX7 k).2.2.1 = some (tyX7 k) := by decide +kernel
abbrev cX7_init : ByteArray := prog_9_method_1_code
def yX7_init : MethodName := ⟨RX7, "<init>", "(LSevenPlates$Table;LSevenPlates$Course;)V"⟩
abbrev cX7_areAlike : ByteArray := prog_9_method_2_code
def yX7_areAlike : MethodName := ⟨RX7, "areAlike", "(II)Z"⟩
abbrev cX7_howMany : ByteArray := prog_9_method_3_code
def yX7_howMany : MethodName := ⟨RX7, "howMany", "()I"⟩
abbrev cX7_atPlace : ByteArray := prog_9_method_4_code
def yX7_atPlace : MethodName := ⟨RX7, "atPlace", "(I)I"⟩
abbrev cX7_fewestLaidAnew : ByteArray := prog_9_method_5_code
def yX7_fewestLaidAnew : MethodName := ⟨RX7, "fewestLaidAnew", "()I"⟩
abbrev cX7_helps : ByteArray := prog_9_method_6_code
def yX7_helps : MethodName := ⟨RX7, "helps", "(II)Z"⟩
def RX8 : String := "SevenPlates"
def TX8 : u_T := fun k => match k with
  | 0 => ("SevenPlates", "now", "LSevenPlates$Table;", true)
  | 1 => ("SevenPlates", "images", "[LSevenPlates$Table;", true)
  | 2 => ("SevenPlates", "kept", "[Z", true)
  | 3 => ("SevenPlates", "pad", "LSevenPlates$Pad;", true)
  | 4 => ("SevenPlates", "course", "LSevenPlates$Course;", true)
  | 5 => ("SevenPlates", "evening", "LSevenPlates$Evening;", true)
  | 6 => ("SevenPlates", "fitting", "LSevenPlates$Rows;", true)
  | 7 => ("SevenPlates", "beliefs", "LSevenPlates$Beliefs;", true)
  | 8 => ("SevenPlates", "leavings", "LSevenPlates$Leavings;", true)
  | _ => ("SevenPlates", "twos", "LSevenPlates$Twos;", true)
def tyX8 : Nat → FieldType := fun k => match k with
  | 0 => .object "SevenPlates$Table"
  | 1 => .array (.object "SevenPlates$Table")
  | 2 => .array .boolean
  | 3 => .object "SevenPlates$Pad"
  | 4 => .object "SevenPlates$Course"
  | 5 => .object "SevenPlates$Evening"
  | 6 => .object "SevenPlates$Rows"
  | 7 => .object "SevenPlates$Beliefs"
  | 8 => .object "SevenPlates$Leavings"
  | _ => .object "SevenPlates$Twos"
abbrev wsX80 : List Cond := u_ws RX8 TX8 10
theorem nmX8 : ∀ a, a < 10 → ∀ b, b < 10 → a ≠ b → (TX8 a).2.1 ≠ (TX8 b).2.1 := by decide +kernel
theorem tyX8_ok : ∀ k, k < 10 → parseFieldDescriptor (TX8 k).2.2.1 = some (tyX8 k) := by decide +kernel
abbrev cX8_init : ByteArray := prog_1_method_1_code
def yX8_init : MethodName := ⟨RX8, "<init>", "()V"⟩
abbrev cX8_things : ByteArray := prog_1_method_2_code
def yX8_things : MethodName := ⟨RX8, "things", "(I)I"⟩
abbrev cX8_thing : ByteArray := prog_1_method_3_code
def yX8_thing : MethodName := ⟨RX8, "thing", "(III)I"⟩
abbrev cX8_guest : ByteArray := prog_1_method_4_code
def yX8_guest : MethodName := ⟨RX8, "guest", "(IIIII)I"⟩
abbrev cX8_leave : ByteArray := prog_1_method_5_code
def yX8_leave : MethodName := ⟨RX8, "leave", "(I)I"⟩
abbrev cX8_say : ByteArray := prog_1_method_6_code
def yX8_say : MethodName := ⟨RX8, "say", "(I)I"⟩
abbrev cX8_wipe : ByteArray := prog_1_method_7_code
def yX8_wipe : MethodName := ⟨RX8, "wipe", "()I"⟩
abbrev cX8_fault : ByteArray := prog_1_method_8_code
def yX8_fault : MethodName := ⟨RX8, "fault", "()I"⟩
abbrev cX8_judge : ByteArray := prog_1_method_9_code
def yX8_judge : MethodName := ⟨RX8, "judge", "(I)I"⟩
abbrev cX8_used : ByteArray := prog_1_method_10_code
def yX8_used : MethodName := ⟨RX8, "used", "(I)I"⟩
abbrev cX8_behind : ByteArray := prog_1_method_11_code
def yX8_behind : MethodName := ⟨RX8, "behind", "(II)I"⟩
abbrev cX8_done : ByteArray := prog_1_method_12_code
def yX8_done : MethodName := ⟨RX8, "done", "()I"⟩
abbrev cX8_state : ByteArray := prog_1_method_13_code
def yX8_state : MethodName := ⟨RX8, "state", "(II)I"⟩
abbrev cX8_eats : ByteArray := prog_1_method_14_code
def yX8_eats : MethodName := ⟨RX8, "eats", "(I)I"⟩
abbrev cX8_seen : ByteArray := prog_1_method_15_code
def yX8_seen : MethodName := ⟨RX8, "seen", "(II)I"⟩
abbrev cX8_forget : ByteArray := prog_1_method_16_code
def yX8_forget : MethodName := ⟨RX8, "forget", "()I"⟩
abbrev cX8_rows : ByteArray := prog_1_method_17_code
def yX8_rows : MethodName := ⟨RX8, "rows", "(II)I"⟩
abbrev cX8_cup : ByteArray := prog_1_method_18_code
def yX8_cup : MethodName := ⟨RX8, "cup", "(II)I"⟩
abbrev cX8_look : ByteArray := prog_1_method_19_code
def yX8_look : MethodName := ⟨RX8, "look", "(II)I"⟩
abbrev cX8_belief : ByteArray := prog_1_method_20_code
def yX8_belief : MethodName := ⟨RX8, "belief", "(III)J"⟩
abbrev cX8_alike : ByteArray := prog_1_method_21_code
def yX8_alike : MethodName := ⟨RX8, "alike", "(I)I"⟩
abbrev cX8_lay : ByteArray := prog_1_method_22_code
def yX8_lay : MethodName := ⟨RX8, "lay", "(I)I"⟩
abbrev cX8_hide : ByteArray := prog_1_method_23_code
def yX8_hide : MethodName := ⟨RX8, "hide", "()I"⟩
abbrev cX8_trace : ByteArray := prog_1_method_24_code
def yX8_trace : MethodName := ⟨RX8, "trace", "()I"⟩
abbrev cX8_lock : ByteArray := prog_1_method_25_code
def yX8_lock : MethodName := ⟨RX8, "lock", "(II)I"⟩
abbrev cX8_year : ByteArray := prog_1_method_26_code
def yX8_year : MethodName := ⟨RX8, "year", "(III)I"⟩
abbrev cX8_image : ByteArray := prog_1_method_27_code
def yX8_image : MethodName := ⟨RX8, "image", "(I)I"⟩
abbrev cX8_restore : ByteArray := prog_1_method_28_code
def yX8_restore : MethodName := ⟨RX8, "restore", "(I)I"⟩
abbrev cX8_told : ByteArray := prog_1_method_29_code
def yX8_told : MethodName := ⟨RX8, "told", "(I)I"⟩
abbrev cX8_toldOfThing : ByteArray := prog_1_method_30_code
def yX8_toldOfThing : MethodName := ⟨RX8, "toldOfThing", "(II)I"⟩
abbrev cX8_toldOfGuest : ByteArray := prog_1_method_31_code
def yX8_toldOfGuest : MethodName := ⟨RX8, "toldOfGuest", "(II)I"⟩
abbrev cX8_isRowLength : ByteArray := prog_1_method_32_code
def yX8_isRowLength : MethodName := ⟨RX8, "isRowLength", "(I)Z"⟩
abbrev cX8_runEvening : ByteArray := prog_1_method_33_code
def yX8_runEvening : MethodName := ⟨RX8, "runEvening", "()I"⟩
def RX9 : String := "SevenPlatesModel"
def TX9 : u_T := fun k => match k with
  | 0 => ("SevenPlatesModel", "things", "I", false)
  | 1 => ("SevenPlatesModel", "is", "[I", true)
  | 2 => ("SevenPlatesModel", "warm", "[I", true)
  | 3 => ("SevenPlatesModel", "sight", "[I", true)
  | 4 => ("SevenPlatesModel", "guests", "I", false)
  | 5 => ("SevenPlatesModel", "size", "[I", true)
  | 6 => ("SevenPlatesModel", "hunger", "[I", true)
  | 7 => ("SevenPlatesModel", "habit", "[I", true)
  | 8 => ("SevenPlatesModel", "often", "[I", true)
  | 9 => ("SevenPlatesModel", "pad", "[I", true)
  | 10 => ("SevenPlatesModel", "padMany", "I", false)
  | 11 => ("SevenPlatesModel", "lastUsed", "I", false)
  | 12 => ("SevenPlatesModel", "eaten", "I", false)
  | 13 => ("SevenPlatesModel", "hadLeft", "[I", true)
  | 14 => ("SevenPlatesModel", "hadWarm", "[I", true)
  | 15 => ("SevenPlatesModel", "badPart", "I", false)
  | 16 => ("SevenPlatesModel", "badWhy", "I", false)
  | 17 => ("SevenPlatesModel", "came", "I", false)
  | 18 => ("SevenPlatesModel", "usedIn", "[I", true)
  | 19 => ("SevenPlatesModel", "firstAt", "[I", true)
  | 20 => ("SevenPlatesModel", "lastAt", "[I", true)
  | 21 => ("SevenPlatesModel", "leaves", "[I", true)
  | 22 => ("SevenPlatesModel", "leavesWarm", "[I", true)
  | 23 => ("SevenPlatesModel", "row", "[I", true)
  | 24 => ("SevenPlatesModel", "rowGuests", "I", false)
  | 25 => ("SevenPlatesModel", "rowMany", "I", false)
  | 26 => ("SevenPlatesModel", "fewest", "I", false)
  | 27 => ("SevenPlatesModel", "sure", "I", false)
  | 28 => ("SevenPlatesModel", "maybe", "I", false)
  | 29 => ("SevenPlatesModel", "firstRow", "[I", true)
  | 30 => ("SevenPlatesModel", "cups", "[I", true)
  | 31 => ("SevenPlatesModel", "leftBy", "[I", true)
  | 32 => ("SevenPlatesModel", "alone", "[I", true)
  | 33 => ("SevenPlatesModel", "tables", "[I", true)
  | 34 => ("SevenPlatesModel", "kept", "[I", true)
  | 35 => ("SevenPlatesModel", "isKept", "[Z", true)
  | 36 => ("SevenPlatesModel", "keptAt", "I", false)
  | _ => ("SevenPlatesModel", "isWriting", "Z", false)
def tyX9 : Nat → FieldType := fun k => match k with
  | 0 => .int
  | 1 => .array .int
  | 2 => .array .int
  | 3 => .array .int
  | 4 => .int
  | 5 => .array .int
  | 6 => .array .int
  | 7 => .array .int
  | 8 => .array .int
  | 9 => .array .int
  | 10 => .int
  | 11 => .int
  | 12 => .int
  | 13 => .array .int
  | 14 => .array .int
  | 15 => .int
  | 16 => .int
  | 17 => .int
  | 18 => .array .int
  | 19 => .array .int
  | 20 => .array .int
  | 21 => .array .int
  | 22 => .array .int
  | 23 => .array .int
  | 24 => .int
  | 25 => .int
  | 26 => .int
  | 27 => .int
  | 28 => .int
  | 29 => .array .int
  | 30 => .array .int
  | 31 => .array .int
  | 32 => .array .int
  | 33 => .array .int
  | 34 => .array .int
  | 35 => .array .boolean
  | 36 => .int
  | _ => .boolean
abbrev wsX90 : List Cond := u_ws RX9 TX9 38
theorem nmX9 : ∀ a, a < 38 → ∀ b, b < 38 → a ≠ b → (TX9 a).2.1 ≠ (TX9 b).2.1 := by decide +kernel
theorem tyX9_ok : ∀ k, k < 38 → parseFieldDescriptor (TX9 k).2.2.1 = some (tyX9 k) := by decide +kernel
abbrev cX9_init : ByteArray := prog_11_method_1_code
def yX9_init : MethodName := ⟨RX9, "<init>", "()V"⟩
abbrev cX9_in : ByteArray := prog_11_method_3_code
def yX9_in : MethodName := ⟨RX9, "in", "(JJJ)Z"⟩
abbrev cX9_ones : ByteArray := prog_11_method_4_code
def yX9_ones : MethodName := ⟨RX9, "ones", "(I)I"⟩
abbrev cX9_at : ByteArray := prog_11_method_5_code
def yX9_at : MethodName := ⟨RX9, "at", "(II)I"⟩
abbrev cX9_begin : ByteArray := prog_11_method_6_code
def yX9_begin : MethodName := ⟨RX9, "begin", "(I)V"⟩
abbrev cX9_isThing : ByteArray := prog_11_method_7_code
def yX9_isThing : MethodName := ⟨RX9, "isThing", "(I)Z"⟩
abbrev cX9_isThere : ByteArray := prog_11_method_8_code
def yX9_isThere : MethodName := ⟨RX9, "isThere", "(I)Z"⟩
abbrev cX9_things : ByteArray := prog_11_method_9_code
def yX9_things : MethodName := ⟨RX9, "things", "(I)I"⟩
abbrev cX9_thing : ByteArray := prog_11_method_10_code
def yX9_thing : MethodName := ⟨RX9, "thing", "(III)I"⟩
abbrev cX9_guest : ByteArray := prog_11_method_11_code
def yX9_guest : MethodName := ⟨RX9, "guest", "(IIIII)I"⟩
abbrev cX9_leave : ByteArray := prog_11_method_12_code
def yX9_leave : MethodName := ⟨RX9, "leave", "(I)I"⟩
abbrev cX9_say : ByteArray := prog_11_method_13_code
def yX9_say : MethodName := ⟨RX9, "say", "(I)I"⟩
abbrev cX9_wipe : ByteArray := prog_11_method_14_code
def yX9_wipe : MethodName := ⟨RX9, "wipe", "()I"⟩
abbrev cX9_fault : ByteArray := prog_11_method_15_code
def yX9_fault : MethodName := ⟨RX9, "fault", "()I"⟩
abbrev cX9_isPassed : ByteArray := prog_11_method_16_code
def yX9_isPassed : MethodName := ⟨RX9, "isPassed", "(I)Z"⟩
abbrev cX9_likes : ByteArray := prog_11_method_17_code
def yX9_likes : MethodName := ⟨RX9, "likes", "(II)I"⟩
abbrev cX9_taken : ByteArray := prog_11_method_18_code
def yX9_taken : MethodName := ⟨RX9, "taken", "(I)I"⟩
abbrev cX9_use : ByteArray := prog_11_method_19_code
def yX9_use : MethodName := ⟨RX9, "use", "(II)V"⟩
abbrev cX9_keepNow : ByteArray := prog_11_method_20_code
def yX9_keepNow : MethodName := ⟨RX9, "keepNow", "()V"⟩
abbrev cX9_putBack : ByteArray := prog_11_method_21_code
def yX9_putBack : MethodName := ⟨RX9, "putBack", "()V"⟩
abbrev cX9_comeIn : ByteArray := prog_11_method_22_code
def yX9_comeIn : MethodName := ⟨RX9, "comeIn", "(II)V"⟩
abbrev cX9_passHour : ByteArray := prog_11_method_23_code
def yX9_passHour : MethodName := ⟨RX9, "passHour", "()V"⟩
abbrev cX9_goEvening : ByteArray := prog_11_method_24_code
def yX9_goEvening : MethodName := ⟨RX9, "goEvening", "()V"⟩
abbrev cX9_refusal : ByteArray := prog_11_method_25_code
def yX9_refusal : MethodName := ⟨RX9, "refusal", "()I"⟩
abbrev cX9_judge : ByteArray := prog_11_method_26_code
def yX9_judge : MethodName := ⟨RX9, "judge", "(I)I"⟩
abbrev cX9_used : ByteArray := prog_11_method_27_code
def yX9_used : MethodName := ⟨RX9, "used", "(I)I"⟩
abbrev cX9_behind : ByteArray := prog_11_method_28_code
def yX9_behind : MethodName := ⟨RX9, "behind", "(II)I"⟩
abbrev cX9_done : ByteArray := prog_11_method_29_code
def yX9_done : MethodName := ⟨RX9, "done", "()I"⟩
abbrev cX9_state : ByteArray := prog_11_method_30_code
def yX9_state : MethodName := ⟨RX9, "state", "(II)I"⟩
abbrev cX9_eats : ByteArray := prog_11_method_31_code
def yX9_eats : MethodName := ⟨RX9, "eats", "(I)I"⟩
abbrev cX9_sights : ByteArray := prog_11_method_32_code
def yX9_sights : MethodName := ⟨RX9, "sights", "()I"⟩
abbrev cX9_seen : ByteArray := prog_11_method_33_code
def yX9_seen : MethodName := ⟨RX9, "seen", "(II)I"⟩
abbrev cX9_forget : ByteArray := prog_11_method_34_code
def yX9_forget : MethodName := ⟨RX9, "forget", "()I"⟩
abbrev cX9_isSeenSo : ByteArray := prog_11_method_35_code
def yX9_isSeenSo : MethodName := ⟨RX9, "isSeenSo", "()Z"⟩
abbrev cX9_power : ByteArray := prog_11_method_36_code
def yX9_power : MethodName := ⟨RX9, "power", "(II)I"⟩
abbrev cX9_layRow : ByteArray := prog_11_method_37_code
def yX9_layRow : MethodName := ⟨RX9, "layRow", "(II)V"⟩
abbrev cX9_canGo : ByteArray := prog_11_method_38_code
def yX9_canGo : MethodName := ⟨RX9, "canGo", "(I)Z"⟩
abbrev cX9_countRow : ByteArray := prog_11_method_39_code
def yX9_countRow : MethodName := ⟨RX9, "countRow", "(I)V"⟩
abbrev cX9_goRows : ByteArray := prog_11_method_40_code
def yX9_goRows : MethodName := ⟨RX9, "goRows", "(I)V"⟩
abbrev cX9_rows : ByteArray := prog_11_method_41_code
def yX9_rows : MethodName := ⟨RX9, "rows", "(II)I"⟩
abbrev cX9_cup : ByteArray := prog_11_method_42_code
def yX9_cup : MethodName := ⟨RX9, "cup", "(II)I"⟩
abbrev cX9_mostLeft : ByteArray := prog_11_method_43_code
def yX9_mostLeft : MethodName := ⟨RX9, "mostLeft", "(I)I"⟩
abbrev cX9_look : ByteArray := prog_11_method_44_code
def yX9_look : MethodName := ⟨RX9, "look", "(II)I"⟩
abbrev cX9_lowest : ByteArray := prog_11_method_45_code
def yX9_lowest : MethodName := ⟨RX9, "lowest", "(JJI)J"⟩
abbrev cX9_weightOf : ByteArray := prog_11_method_46_code
def yX9_weightOf : MethodName := ⟨RX9, "weightOf", "(I)J"⟩
abbrev cX9_belief : ByteArray := prog_11_method_47_code
def yX9_belief : MethodName := ⟨RX9, "belief", "(III)J"⟩
abbrev cX9_tableNow : ByteArray := prog_11_method_48_code
def yX9_tableNow : MethodName := ⟨RX9, "tableNow", "()I"⟩
abbrev cX9_findAlone : ByteArray := prog_11_method_49_code
def yX9_findAlone : MethodName := ⟨RX9, "findAlone", "()V"⟩
abbrev cX9_alike : ByteArray := prog_11_method_50_code
def yX9_alike : MethodName := ⟨RX9, "alike", "(I)I"⟩
abbrev cX9_areApart : ByteArray := prog_11_method_51_code
def yX9_areApart : MethodName := ⟨RX9, "areApart", "()Z"⟩
abbrev cX9_canBeLaid : ByteArray := prog_11_method_52_code
def yX9_canBeLaid : MethodName := ⟨RX9, "canBeLaid", "(II)Z"⟩
abbrev cX9_laidSet : ByteArray := prog_11_method_53_code
def yX9_laidSet : MethodName := ⟨RX9, "laidSet", "()I"⟩
abbrev cX9_lay : ByteArray := prog_11_method_54_code
def yX9_lay : MethodName := ⟨RX9, "lay", "(I)I"⟩
abbrev cX9_hide : ByteArray := prog_11_method_55_code
def yX9_hide : MethodName := ⟨RX9, "hide", "()I"⟩
abbrev cX9_isLeftSo : ByteArray := prog_11_method_56_code
def yX9_isLeftSo : MethodName := ⟨RX9, "isLeftSo", "()Z"⟩
abbrev cX9_trace : ByteArray := prog_11_method_57_code
def yX9_trace : MethodName := ⟨RX9, "trace", "()I"⟩
abbrev cX9_lock : ByteArray := prog_11_method_58_code
def yX9_lock : MethodName := ⟨RX9, "lock", "(II)I"⟩
abbrev cX9_year : ByteArray := prog_11_method_59_code
def yX9_year : MethodName := ⟨RX9, "year", "(III)I"⟩
abbrev cX9_pass : ByteArray := prog_11_method_60_code
def yX9_pass : MethodName := ⟨RX9, "pass", "(I)I"⟩
abbrev cX9_passAll : ByteArray := prog_11_method_61_code
def yX9_passAll : MethodName := ⟨RX9, "passAll", "()V"⟩
abbrev cX9_image : ByteArray := prog_11_method_62_code
def yX9_image : MethodName := ⟨RX9, "image", "(I)I"⟩
abbrev cX9_restore : ByteArray := prog_11_method_63_code
def yX9_restore : MethodName := ⟨RX9, "restore", "(I)I"⟩
abbrev cX9_toldOfThing : ByteArray := prog_11_method_64_code
def yX9_toldOfThing : MethodName := ⟨RX9, "toldOfThing", "(II)I"⟩
abbrev cX9_toldOfGuest : ByteArray := prog_11_method_65_code
def yX9_toldOfGuest : MethodName := ⟨RX9, "toldOfGuest", "(II)I"⟩
abbrev cX9_told : ByteArray := prog_11_method_66_code
def yX9_told : MethodName := ⟨RX9, "told", "(I)I"⟩
def RJ6 : String := "java/lang/Integer"
def TJ6 : u_T := fun k => match k with
  | _ => ("", "", "", false)
def tyJ6 : Nat → FieldType := fun k => match k with
  | _ => .int
abbrev wsJ60 : List Cond := u_ws RJ6 TJ6 0
theorem nmJ6 : ∀ a, a < 0 → ∀ b, b < 0 → a ≠ b → (TJ6 a).2.1 ≠ (TJ6 b).2.1 := by decide +kernel
theorem tyJ6_ok : ∀ k, k < 0 → parseFieldDescriptor (TJ6 k).2.2.1 = some (tyJ6 k) := by decide +kernel
abbrev cJ6_bitCount_0f7a4 : ByteArray := prog_12_method_49_code
def yJ6_bitCount_0f7a4 : MethodName := ⟨RJ6, "bitCount", "(I)I"⟩
def RJ9 : String := "java/lang/Math"
def TJ9 : u_T := fun k => match k with
  | _ => ("", "", "", false)
def tyJ9 : Nat → FieldType := fun k => match k with
  | _ => .int
abbrev wsJ90 : List Cond := u_ws RJ9 TJ9 0
theorem nmJ9 : ∀ a, a < 0 → ∀ b, b < 0 → a ≠ b → (TJ9 a).2.1 ≠ (TJ9 b).2.1 := by decide +kernel
theorem tyJ9_ok : ∀ k, k < 0 → parseFieldDescriptor (TJ9 k).2.2.1 = some (tyJ9 k) := by decide +kernel
abbrev cJ9_abs_0f7a4 : ByteArray := prog_13_method_59_code
def yJ9_abs_0f7a4 : MethodName := ⟨RJ9, "abs", "(I)I"⟩
abbrev cJ9_max_7cf53 : ByteArray := prog_13_method_65_code
def yJ9_max_7cf53 : MethodName := ⟨RJ9, "max", "(II)I"⟩
abbrev cJ9_min_7cf53 : ByteArray := prog_13_method_69_code
def yJ9_min_7cf53 : MethodName := ⟨RJ9, "min", "(II)I"⟩
def RJ10 : String := "java/lang/System"
def TJ10 : u_T := fun k => match k with
  | _ => ("", "", "", false)
def tyJ10 : Nat → FieldType := fun k => match k with
  | _ => .int
abbrev wsJ100 : List Cond := u_ws RJ10 TJ10 0
theorem nmJ10 : ∀ a, a < 0 → ∀ b, b < 0 → a ≠ b → (TJ10 a).2.1 ≠ (TJ10 b).2.1 := by decide +kernel
theorem tyJ10_ok : ∀ k, k < 0 → parseFieldDescriptor (TJ10 k).2.2.1 = some (tyJ10 k) := by decide +kernel
def RJ7 : String := "java/util/Arrays"
def TJ7 : u_T := fun k => match k with
  | _ => ("", "", "", false)
def tyJ7 : Nat → FieldType := fun k => match k with
  | _ => .int
abbrev wsJ70 : List Cond := u_ws RJ7 TJ7 0
theorem nmJ7 : ∀ a, a < 0 → ∀ b, b < 0 → a ≠ b → (TJ7 a).2.1 ≠ (TJ7 b).2.1 := by decide +kernel
theorem tyJ7_ok : ∀ k, k < 0 → parseFieldDescriptor (TJ7 k).2.2.1 = some (tyJ7 k) := by decide +kernel
abbrev cJ7_fill_53178 : ByteArray := prog_15_method_103_code
def yJ7_fill_53178 : MethodName := ⟨RJ7, "fill", "([II)V"⟩
def RL : String := "SevenPlatesLaw"
abbrev cL_law : ByteArray := code
def yL_law : MethodName := ⟨RL, "law", "([I)Z"⟩
abbrev vwCl : List vw_C := [(RX0, TX0, 4), (RX1, TX1, 4), (RX2, TX2, 11), (RX3, TX3, 3), (RX4, TX4, 2), (RX5, TX5, 12), (RX6, TX6, 12), (RX7, TX7, 3), (RX8, TX8, 10), (RX9, TX9, 38)]
